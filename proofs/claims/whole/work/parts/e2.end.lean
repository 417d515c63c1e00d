-- validation: else and end
section ENDV
variable {γ : Type} {s0 s : St} {t0 t : SM} {F kX : St → Option γ} {kM : SM → Option SM} {R : St → SM → Prop} {w : Cd} {v : Hv} {m : Md} {f rs k C nP : Nat}
theorem popc {d b dd h n : Nat} (T : Tp d b dd h s t) (hm : VMf t0 t) (hn : n < 100) : ∃ t1, f_M_pop (nI n) t = some t1 ∧ ((∃ h1, t1 = stI t 0 17 (nI h1) ∧ b ≤ h1 ∧ h1 ≤ h) ∨ VMd t0 3 d t1) := by
  have := r_take (s0 := s) (t0 := t0) (F := fun _ : St => (some 0 : Option Nat)) (G := some) (R := fun _ t1 => (∃ h1, t1 = stI t 0 17 (nI h1) ∧ b ≤ h1 ∧ h1 ≤ h) ∨ VMd t0 3 d t1) (kX := fun _ => some 0) (kM := some) (n := n) T (VXf.refl s) hm hn (fun h' q1 q2 _ _ _ => ⟨s, _, rfl, rfl, Or.inl ⟨h', rfl, q1, q2⟩⟩) (fun s' t' _ hVM => ⟨s, t', rfl, rfl, Or.inr hVM⟩)
  obtain ⟨x, y, q1, q2, q3⟩ := this
  refine ⟨y, ?_, q3⟩
  have q2' : bd1 (f_M_pop (nI n) t) some = some y := q2
  cases hpp : f_M_pop (nI n) t with
  | none => rw [hpp] at q2'; exact q2'
  | some z => rw [hpp] at q2'; exact q2'
theorem mari (I : VI w v f rs k s t) (W : WF w C) (hkC : k < C) (hC : C ≤ 240) (RM : ∀ k, k < C → RwM w k t) (hrs : f_M_resultsOf t (nI f) = some (nI rs)) : f_M_arity t (nI f) (nI (w.ins k) - 1) = some (nI (gv w rs (w.ins k))) := by
  have hik := W.i1 k (by omega)
  rw [f_M_arity, gv]
  by_cases hc : w.ins k = 0
  · rw [hc, if_pos neg1.symm, if_pos rfl, hrs, bd1_some, f_M_arity_20]
  · obtain ⟨B, hB⟩ : ∃ B, w.ins k = B + 1 := ⟨w.ins k - 1, by omega⟩
    have hop := (W.i2 k (by omega) hc).1
    rw [hB, Nat.add_sub_cancel] at hop
    rw [if_neg (nIm_ne hc (by omega)), if_neg hc, hB, nI_pred, Nat.add_sub_cancel, gi_n (show B < 250 by omega) (by decide), nI_clamp (by omega), (RM B (by omega)).c1, mF, if_neg (by omega)]
    simp only [lt1, lN_i, f_M_arity_20]
theorem vx_52 {e : Nat} {x y : Int32} (h : VX s0 e s) (hX9 : ∀ e s, VX s0 e s → okg F (kX s) (VX s0 e)) : okg F (bd1 (f_Val_closeBlock_52 x y s) kX) (VX s0 e) := by
  rw [f_Val_closeBlock_52]
  simp only [lt1, f_Val_closeBlock_106, bd1_ite, bd1_bd1, bd1_some]
  split
  · exact vx_give (h.p (by decide)) (fun s hs => hX9 _ _ hs)
  · exact hX9 _ _ ((h.t (by omega)).t (by omega))
theorem vx_30 {e : Nat} {x y : Int32} (h : VX s0 e s) (hX9 : ∀ e s, VX s0 e s → okg F (kX s) (VX s0 e)) : okg F (bd1 (f_Val_closeBlock_30 x y s) kX) (VX s0 e) := by
  rw [f_Val_closeBlock_30]
  simp only [bd1_bd1, bd1_ite]
  refine vx_take h (fun s1 h1 => vx_inn (fun r => ?_))
  split
  · exact vx_52 h1 hX9
  · exact vx_ref h1 (vx_52 h1 hX9)
/-- what the other side does at an end when a fault is there -/
theorem vm_195 {e d : Nat} {x1 x2 x3 x4 x5 y : Int32} (h : VMd t0 e d t) (hM9 : ∀ e t, VM t0 e t → okg some (kM t) (VM t0 e)) : okg some (bd1 (f_M_validateBlock_195 x1 x2 x3 x4 x5 y t) kM) (VM t0 e) := by
  have hd := h.2.2.1
  rw [f_M_validateBlock_195, mw_flt h.1.ne, bd1_some, h.2.1, gi_n hd (by decide), bz0]
  simp only [lt1, f_M_validateBlock_231, f_M_validateBlock_241, bd1_ite, bd1_bd1, bd1_some]
  split
  · exact hM9 _ _ (h.1.p (by omega))
  · split
    · exact vm_push (h.1.p0 (by omega)) (hM9 _ _ ((h.1.p0 (by omega)).p0 (by omega)))
    · exact vm_push (h.1.p0 (by omega)) (hM9 _ _ ((h.1.p0 (by omega)).p0 (by omega)))
theorem vm_147 {e d c : Nat} {x1 x2 x3 x5 y : Int32} (hc : c ≤ 240) (h : VMd t0 e d t) (hM9 : ∀ e t, VM t0 e t → okg some (kM t) (VM t0 e)) : okg some (bd1 (f_M_validateBlock_147 x1 x2 x3 (nI c - 1) x5 y t) kM) (VM t0 e) := by
  rw [f_M_validateBlock_147, mw_flt h.1.ne, bd1_some]
  simp only [f_M_validateBlock_190]
  by_cases h5 : x3 = 5
  · rw [if_pos h5]; exact vm_195 h hM9
  · rw [if_neg h5]
    by_cases hc0 : c = 0
    · rw [hc0, if_pos neg1.symm]; exact vm_195 h hM9
    · obtain ⟨B, rfl⟩ : ∃ B, c = B + 1 := ⟨c - 1, by omega⟩
      rw [if_neg (nIm_ne hc0 (by omega)), nI_pred, gi_n (show B < 250 by omega) (by decide), gi_n (show B < 250 by omega) (by decide)]
      simp only [lt1]
      repeat' split
      all_goals exact vm_195 h hM9
theorem clsv (N : NV s0 t0 F kX kM R w v m f rs k s t) (I : VI w v f rs k s t) (W : WF w C) (hkC : k < C) (hC : C ≤ 240) (E : Env m s t) (hf : f < m.nF) (hrs : rs = m.res f) (hfn : w.fn k = f) (h5 : w.op k = 5) (RM : ∀ k, k < C → RwM w k t) (hx : VXf s0 s) (hm : VMf t0 t)
    (hX9 : ∀ e s, VX s0 e s → okg F (kX s) (VX s0 e)) (hM9 : ∀ e t, VM t0 e t → okg some (kM t) (VM t0 e)) :
    o2 F some (bd1 (f_Val_closeBlock (nI (w.op k)) s) kX) (bd1 (f_M_validateBlock (nI f) (nI k) t) kM) (VRB s0 t0 R) := by
  have hd10 := W.d10 k (by omega)
  have hk2 : k < 250 := by omega
  have hik := W.i1 k (by omega)
  obtain ⟨dd, T, L, hdd0, hdd1⟩ := I.tp hd10
  have hl1 := I.l1
  have hbh := I.bh
  have h16 := I.h16
  have h8 := E.nF8
  have hr1 := (E.p4 f hf).2.1
  have hrsM : f_M_resultsOf t (nI f) = some (nI rs) := by rw [hrs]; exact E.rsM hf
  obtain ⟨hne, hop4, hel⟩ := W.el1 k hkC h5
  have hg1 : gv w rs (w.ins k) ≤ 1 := by
    rw [gv, if_neg hne]
    exact (W.ok (w.ins k - 1) (by omega)).2.blk (by omega)
  rw [h5, f_Val_closeBlock, in_1 I.x0 hd10, L.x1, bd1_some, if_neg (show ¬ nI 5 = 11 by decide), f_Val_closeBlock_30, f_M_validateBlock, gi_n hk2 (by decide)]
  simp only [lt1, nI_clamp (show k < 2 ^ 31 by omega), (RM k hkC).c0, h5]
  rw [if_neg (show ¬ nI 5 = 0 by decide), if_neg (show ¬ nI 5 < 2 by decide), if_pos (show 4 < nI 5 by decide), f_M_validateBlock_88, if_pos (show nI 5 = 5 from rfl), f_M_validateBlock_99, I.m16, gi_n (show w.dp k < 16 by omega) (by decide), nI_clamp (by omega)]
  simp only [lt1, L.m26]
  rw [mari I W hkC hC RM hrsM, bd1_some]
  simp only [bd1_bd1]
  refine r_take T hx hm (by omega) (fun h' hb1 hb2 hb3 hb4 T' => ?_) (fun s' t' hVX hVM => ?_)
  · rw [in_0 T'.x0 hd10, T'.xb, bd1_some, T'.x1, T'.m16, gi_n (show w.dp k < 16 by omega) (by decide), nI_clamp (by omega), T'.mb, T'.m17]
    by_cases hhb : h' = bs w v (w.ins k)
    · subst hhb
      rw [if_pos rfl, if_pos rfl, f_Val_closeBlock_52, if_neg (show ¬ nI 5 = 11 by decide), f_M_validateBlock_147, mw_t (by decide), bd1_some, if_pos (show nI 5 = 5 from rfl), f_M_validateBlock_190, f_M_validateBlock_195, mw_t (by decide), bd1_some, if_pos (show nI 5 = 5 from rfl), T'.m16, gi_n (show w.dp k < 16 by omega) (by decide), bz0, nI_clamp (by omega)]
      simp only [lt1]
      rw [T'.x0, nI_pred, ts_11_6_3 (show w.dp k < 11 by omega)]
      simp (disch := first | decide | omega) only [stp_eq, stp_ne, stp_nj, stI1, stI2, stL1, stL_eq, stL_ne, stL_nj, gi_n, nI_clamp , I.x0, nI_pred, ts_11_6_4 (show w.dp k < 11 by omega), f_Val_closeBlock_106, bd1_some]
      refine N _ _ _ (I.els W hkC h5 (by simp (disch := first | decide | omega) only [stp_eq, stp_ne, stp_nj, stI1, stI2, stL1, stL_eq, stL_ne, stL_nj, gi_n, nI_clamp ]) (by simp (disch := first | decide | omega) only [stp_eq, stp_ne, stp_nj, stI1, stI2, stL1, stL_eq, stL_ne, stL_nj, gi_n, nI_clamp ]) (by simp (disch := first | decide | omega) only [stp_eq, stp_ne, stp_nj, stI1, stI2, stL1, stL_eq, stL_ne, stL_nj, gi_n, nI_clamp ]) (by simp (disch := first | decide | omega) only [stp_eq, stp_ne, stp_nj, stI1, stI2, stL1, stL_eq, stL_ne, stL_nj, gi_n, nI_clamp ]; exact I.x3) (by simp (disch := first | decide | omega) only [stp_eq, stp_ne, stp_nj, stI1, stI2, stL1, stL_eq, stL_ne, stL_nj, gi_n, nI_clamp ]; exact I.m5) (by simp (disch := first | decide | omega) only [stp_eq, stp_ne, stp_nj, stI1, stI2, stL1, stL_eq, stL_ne, stL_nj, gi_n, nI_clamp ]) (by simp (disch := first | decide | omega) only [stp_eq, stp_ne, stp_nj, stI1, stI2, stL1, stL_eq, stL_ne, stL_nj, gi_n, nI_clamp ]) (by simp (disch := first | decide | omega) only [stp_eq, stp_ne, stp_nj, stI1, stI2, stL1, stL_eq, stL_ne, stL_nj, gi_n, nI_clamp ]) (by simp (disch := first | decide | omega) only [stp_eq, stp_ne, stp_nj, stI1, stI2, stL1, stL_eq, stL_ne, stL_nj, gi_n, nI_clamp ]) (fun q q1 q2 => by simp (disch := first | decide | omega) only [stp_eq, stp_ne, stp_nj, stI1, stI2, stL1, stL_eq, stL_ne, stL_nj, gi_n, nI_clamp ]) (fun q q1 => by simp (disch := first | decide | omega) only [stp_eq, stp_ne, stp_nj, stI1, stI2, stL1, stL_eq, stL_ne, stL_nj, gi_n, nI_clamp ]) (by simp (disch := first | decide | omega) only [stp_eq, stp_ne, stp_nj, stI1, stI2, stL1, stL_eq, stL_ne, stL_nj, gi_n, nI_clamp ]) (by simp (disch := first | decide | omega) only [stp_eq, stp_ne, stp_nj, stI1, stI2, stL1, stL_eq, stL_ne, stL_nj, gi_n, nI_clamp ]) (by simp (disch := first | decide | omega) only [stp_eq, stp_ne, stp_nj, stI1, stI2, stL1, stL_eq, stL_ne, stL_nj, gi_n, nI_clamp ])) (EqV.set v k _ _ _) (SR.gen W hkC I (EqV.set v k _ _ _) (fun q => ⟨fun z => by unfold lead at z; omega, fun _ => ?_⟩) (fun q => ⟨fun z => by omega, fun _ z => ?_, fun z => by omega, fun _ _ z => ⟨?_, set_nsk v⟩⟩) (fun z => by omega) (fun _ => ⟨set_hik v, fun z => ?_⟩) (fun hl => ?_)) ((((X1.refl s).p (by omega)).p (by omega)).p (by omega)) (((M1.refl t).p0 (by omega)).p (by omega))
      · rw [set_lok]; split
        · rfl
        · exact q
      · rw [set_lok, if_pos z]
      · rw [set_lok, if_neg (fun y => z ⟨h5, y⟩)]; exact q
      · rw [set_lok]
        by_cases hl : v.lo k = 0
        · split
          · rfl
          · exact hl
        · have hl' : v.lo k = 1 := by omega
          have := (I.e1 hl').2 0 (Nat.zero_le _)
          rw [ups, et, if_neg hne, z] at this
          rw [if_pos (by have := this.mp rfl; omega)]
      · have hd0 := hdd0 hl
        have hle : gv w rs (w.ins k) ≤ v.hi k - bs w v (w.ins k) := by
          by_cases z : gv w rs (w.ins k) ≤ v.hi k - bs w v (w.ins k)
          · exact z
          · have := hb4 z; omega
        have hh' := hb3 hle
        refine ⟨fun z => by omega, fun z => by omega, fun z => by omega, fun _ => ?_, fun z => by omega, fun z => by omega, fun z => by omega, fun z => by omega, fun z => by omega, fun z => by omega, fun z => by omega, fun z => by omega, fun z => by omega, fun z => by omega⟩
        rw [set_hi v (by omega), set_bs v (by omega), hfn, ← hrs]
        omega
    · have hne2 : ¬ nI h' = nI (bs w v (w.ins k)) := fun z => hhb ((nI_eq (by omega) (by omega)).mp z)
      rw [if_neg hne2, if_neg hne2, vr_0 T'.x3, bd1_some, f_M_validateBlock_147, mw_f T'.m5, bd1_some, if_pos (show nI 5 = 5 from rfl), f_M_validateBlock_190]
      have hVX : VX s0 3 (stp (stp s 3 1 (nI h')) 3 3 3) := ⟨by simp (disch := first | decide | omega) only [stp_eq, stp_ne, stp_nj, stI1, stI2, stL1, stL_eq, stL_ne, stL_nj, gi_n, nI_clamp ]; rfl, by decide, by decide, (hx.p (by omega)).p (by omega)⟩
      have hVM : VMd t0 3 (w.dp k) (stI (stI t 0 17 (nI h')) 0 5 3) := ⟨⟨by simp (disch := first | decide | omega) only [stp_eq, stp_ne, stp_nj, stI1, stI2, stL1, stL_eq, stL_ne, stL_nj, gi_n, nI_clamp ]; rfl, by decide, by decide, (hm.p0 (by omega)).p0 (by omega)⟩, by simp (disch := first | decide | omega) only [stp_eq, stp_ne, stp_nj, stI1, stI2, stL1, stL_eq, stL_ne, stL_nj, gi_n, nI_clamp ]; exact I.m16, by omega, dd, by simp (disch := first | decide | omega) only [stp_eq, stp_ne, stp_nj, stI1, stI2, stL1, stL_eq, stL_ne, stL_nj, gi_n, nI_clamp ]; exact L.m28, L.d1⟩
      exact r_VV (vx_52 hVX hX9) (vm_195 hVM hM9)
  · refine r_VV (e := 3) (vx_inn (fun r => ?_)) ?_
    · simp only [bd1_ite, bd1_bd1]
      split
      · exact vx_52 hVX hX9
      · exact vx_ref hVX (vx_52 hVX hX9)
    · have hd := hVM.2.2.1
      rw [hVM.2.1, gi_n hd (by decide)]
      simp only [bd1_ite]
      split
      · exact vm_147 (by omega) hVM hM9
      · exact vm_147 (by omega) hVM hM9
/-- an end: of a block, or of the body -/
theorem endv (N : w.ins k ≠ 0 → NV s0 t0 F kX kM R w v m f rs k s t) (Z : w.ins k = 0 → NVz s0 t0 F kX kM R w v m k s t) (I : VI w v f rs k s t) (W : WF w C) (hkC : k < C) (hC : C ≤ 240) (E : Env m s t) (hf : f < m.nF) (hrs : rs = m.res f) (hfn : w.fn k = f) (h11 : w.op k = 11) (RM : ∀ k, k < C → RwM w k t) (hx : VXf s0 s) (hm : VMf t0 t)
    (hX9 : ∀ e s, VX s0 e s → okg F (kX s) (VX s0 e)) (hM9 : ∀ e t, VM t0 e t → okg some (kM t) (VM t0 e)) :
    o2 F some (bd1 (f_Val_closeBlock (nI (w.op k)) s) kX) (bd1 (f_M_validateBlock (nI f) (nI k) t) kM) (VRB s0 t0 R) := by
  have hd10 := W.d10 k (by omega)
  have hk2 : k < 250 := by omega
  have hik := W.i1 k (by omega)
  obtain ⟨dd, T, L, hdd0, hdd1⟩ := I.tp hd10
  have hl1 := I.l1
  have hbh := I.bh
  have h16 := I.h16
  have h8 := E.nF8
  have hr1 := (E.p4 f hf).2.1
  have hrsM : f_M_resultsOf t (nI f) = some (nI rs) := by rw [hrs]; exact E.rsM hf
  have hg1 : gv w rs (w.ins k) ≤ 1 := by
    unfold gv
    split
    · omega
    · rename_i hc
      exact (W.ok (w.ins k - 1) (by omega)).2.blk (W.i2 k (by omega) hc).1
  -- an if without else that gives something
  have hob : ob w k (w.ins k) = 4 ↔ w.ins k ≠ 0 ∧ w.op (w.ins k - 1) = 4 ∧ w.el (w.ins k - 1) = 0 := by
    unfold ob
    by_cases hc : w.ins k = 0
    · rw [if_pos hc]; omega
    · rw [if_neg hc]
      by_cases hel : w.el (w.ins k - 1) = 0
      · rw [if_neg (by omega)]; omega
      · obtain ⟨-, q2, e, q3, -, -, -, -, q8⟩ := W.el2 (w.ins k - 1) hel
        have hen := W.en1 k hkC h11 hc
        have := q8 (by omega)
        rw [if_pos (by omega)]; omega
  have hob64 : ob w k (w.ins k) < 100 := by
    unfold ob
    split
    · omega
    · rename_i hc
      have := (W.i2 k (by omega) hc).1
      split <;> omega
  rw [h11, f_Val_closeBlock, in_1 I.x0 hd10, L.x1, bd1_some, if_pos (show nI 11 = 11 from rfl), in_3 I.x0 hd10, L.x3, bd1_some, f_M_validateBlock, gi_n hk2 (by decide)]
  simp only [lt1, nI_clamp (show k < 2 ^ 31 by omega), (RM k hkC).c0, h11]
  rw [if_neg (show ¬ nI 11 = 0 by decide), if_neg (show ¬ nI 11 < 2 by decide), if_pos (show 4 < nI 11 by decide), f_M_validateBlock_88, if_neg (show ¬ nI 11 = 5 by decide), if_pos (show nI 11 = 11 from rfl), f_M_validateBlock_99, I.m16, gi_n (show w.dp k < 16 by omega) (by decide), nI_clamp (by omega)]
  simp only [lt1, L.m26]
  rw [mari I W hkC hC RM hrsM, bd1_some]
  -- the other side, behind the pop, at a height h'
  have m147 : ∀ (t1 : SM) (y : Int32), t1.1 14 = t.1 14 → t1.1 19 = t.1 19 → f_M_validateBlock_147 (nI f) (nI k) (nI 11) (nI (w.ins k) - 1) (nI (gv w rs (w.ins k))) y t1 = bd1 (f_M_will y 3 t1) fun s1 => f_M_validateBlock_195 (nI f) (nI k) (nI 11) (nI (w.ins k) - 1) (nI (gv w rs (w.ins k))) (if ob w k (w.ins k) = 4 ∧ gv w rs (w.ins k) ≠ 0 then 0 else 1) s1 := by
    intro t1 y q14 q19
    have wil : ∀ z, f_M_will y 3 t1 = some z → z.1 14 = t1.1 14 ∧ z.1 19 = t1.1 19 := by
      intro z hz
      rw [f_M_will] at hz
      simp only [f_M_will_16, lt1] at hz
      split at hz
      · split at hz
        · cases hz; exact ⟨by simp (disch := first | decide | omega) only [stp_eq, stp_ne, stp_nj, stI1, stI2, stL1, stL_eq, stL_ne, stL_nj, gi_n, nI_clamp ], by simp (disch := first | decide | omega) only [stp_eq, stp_ne, stp_nj, stI1, stI2, stL1, stL_eq, stL_ne, stL_nj, gi_n, nI_clamp ]⟩
        · cases hz; exact ⟨rfl, rfl⟩
      · cases hz; exact ⟨rfl, rfl⟩
    rw [f_M_validateBlock_147]
    cases hw : f_M_will y 3 t1 with
    | none => rfl
    | some z =>
      obtain ⟨w14, w19⟩ := wil z hw
      simp only [bd1_some, f_M_validateBlock_190]
      rw [if_neg (show ¬ nI 11 = 5 by decide)]
      by_cases hc : w.ins k = 0
      · rw [hc, if_pos neg1.symm, if_neg (fun q => ((hob.mp (by rw [hc]; exact q.1)).1 hc))]
      · obtain ⟨B, hB⟩ : ∃ B, w.ins k = B + 1 := ⟨w.ins k - 1, by omega⟩
        have r0 := (RM B (by omega)).c0
        have r5 := (RM B (by omega)).c5
        have hopB := (W.i2 k (by omega) hc).1
        rw [hB, Nat.add_sub_cancel] at hob hopB
        have helB : w.el B ≤ C := by
          by_cases q : w.el B = 0
          · omega
          · obtain ⟨-, -, e, q3, -, q5, -⟩ := W.el2 B q; omega
        rw [if_neg (nIm_ne hc (by omega)), hB, nI_pred, gi_n (show B < 250 by omega) (by decide), gi_n (show B < 250 by omega) (by decide), nI_clamp (by omega), w14, q14, r0, w19, q19, r5]
        simp only [lt1]
        by_cases h4 : w.op B = 4
        · rw [h4, if_pos (show nI 4 = 4 from rfl)]
          by_cases hel : w.el B = 0
          · rw [hel, if_pos neg1.symm]
            have : ob w k (B + 1) = 4 := hob.mpr ⟨by omega, h4, hel⟩
            by_cases hg0 : gv w rs (B + 1) = 0
            · rw [hg0, if_pos (show nI 0 = 0 from rfl), if_neg (fun q => q.2 rfl)]
            · rw [if_neg (nI_ne0 (by omega) (by rw [hB] at hg1; omega)), if_pos ⟨this, hg0⟩]
          · rw [if_neg (nIm_ne hel (by omega)), if_neg (fun q => hel (hob.mp q.1).2.2)]
        · rw [if_neg (show ¬ nI (w.op B) = 4 from nI_ne (b := 4) h4 (by omega) (by decide)), if_neg (fun q => h4 (hob.mp q.1).2.1)]
  by_cases hbad : ob w k (w.ins k) = 4 ∧ gv w rs (w.ins k) ≠ 0
  · -- both refuse
    rw [if_pos (show nI (ob w k (w.ins k)) = 4 by rw [hbad.1]; rfl), if_neg (nI_nle (by omega) (by omega)), vr_0 I.x3, bd1_some]
    have hVX : VX s0 3 (stp s 3 3 3) := ⟨by simp (disch := first | decide | omega) only [stp_eq, stp_ne, stp_nj, stI1, stI2, stL1, stL_eq, stL_ne, stL_nj, gi_n, nI_clamp ]; rfl, by decide, by decide, hx.p (by omega)⟩
    refine r_VV (vx_30 hVX hX9) ?_
    obtain ⟨t1, hp1, hp2⟩ := popc (n := gv w rs (w.ins k)) T hm (by omega)
    rw [hp1, bd1_some]
    rcases hp2 with ⟨h1, rfl, hh1, hh2⟩ | hVM
    · have e16 : (stI t 0 17 (nI h1)).1 0 16 = nI (w.dp k) := by simp (disch := first | decide | omega) only [stp_eq, stp_ne, stp_nj, stI1, stI2, stL1, stL_eq, stL_ne, stL_nj, gi_n, nI_clamp ]; exact I.m16
      have h5 : (stI t 0 17 (nI h1)).1 0 5 = 0 := by simp (disch := first | decide | omega) only [stp_eq, stp_ne, stp_nj, stI1, stI2, stL1, stL_eq, stL_ne, stL_nj, gi_n, nI_clamp ]; exact I.m5
      have hVM : VMd t0 3 (w.dp k) (stI (stI t 0 17 (nI h1)) 0 5 3) := ⟨⟨by simp (disch := first | decide | omega) only [stp_eq, stp_ne, stp_nj, stI1, stI2, stL1, stL_eq, stL_ne, stL_nj, gi_n, nI_clamp ]; rfl, by decide, by decide, (hm.p0 (by omega)).p0 (by omega)⟩, by simp (disch := first | decide | omega) only [stp_eq, stp_ne, stp_nj, stI1, stI2, stL1, stL_eq, stL_ne, stL_nj, gi_n, nI_clamp ]; exact I.m16, by omega, dd, by simp (disch := first | decide | omega) only [stp_eq, stp_ne, stp_nj, stI1, stI2, stL1, stL_eq, stL_ne, stL_nj, gi_n, nI_clamp ]; exact L.m28, L.d1⟩
      rw [e16, gi_n (show w.dp k < 16 by omega) (by decide), m147 _ _ (by simp (disch := first | decide | omega) only [stp_eq, stp_ne, stp_nj, stI1, stI2, stL1, stL_eq, stL_ne, stL_nj, gi_n, nI_clamp ]) (by simp (disch := first | decide | omega) only [stp_eq, stp_ne, stp_nj, stI1, stI2, stL1, stL_eq, stL_ne, stL_nj, gi_n, nI_clamp ]), m147 _ _ (by simp (disch := first | decide | omega) only [stp_eq, stp_ne, stp_nj, stI1, stI2, stL1, stL_eq, stL_ne, stL_nj, gi_n, nI_clamp ]) (by simp (disch := first | decide | omega) only [stp_eq, stp_ne, stp_nj, stI1, stI2, stL1, stL_eq, stL_ne, stL_nj, gi_n, nI_clamp ]), if_pos hbad]
      simp only [bd1_ite]
      split
      · rw [mw_t (by decide), bd1_some, f_M_validateBlock_195, mw_f h5, bd1_some]
        have := vm_195 (x1 := nI f) (x2 := nI k) (x3 := nI 11) (x4 := nI (w.ins k) - 1) (x5 := nI (gv w rs (w.ins k))) (y := 1) hVM hM9
        rw [f_M_validateBlock_195, mw_t (by decide), bd1_some] at this
        exact this
      · rw [mw_f h5, bd1_some]
        exact vm_195 hVM hM9
    · have hd := hVM.2.2.1
      rw [hVM.2.1, gi_n hd (by decide)]
      simp only [bd1_ite]
      split
      · exact vm_147 (by omega) hVM hM9
      · exact vm_147 (by omega) hVM hM9
  · have hX30 : (if nI (ob w k (w.ins k)) = 4 then if nI (gv w rs (w.ins k)) ≤ 0 then f_Val_closeBlock_30 (nI 11) (nI (gv w rs (w.ins k))) s else bd1 (f_Val_refuse 3 s) fun s3 => f_Val_closeBlock_30 (nI 11) (nI (gv w rs (w.ins k))) s3 else f_Val_closeBlock_30 (nI 11) (nI (gv w rs (w.ins k))) s) = f_Val_closeBlock_30 (nI 11) (nI (gv w rs (w.ins k))) s := by
      by_cases h4 : ob w k (w.ins k) = 4
      · have : gv w rs (w.ins k) = 0 := by
          by_cases q : gv w rs (w.ins k) = 0
          · exact q
          · exact absurd ⟨h4, q⟩ hbad
        rw [h4, this, if_pos (show nI 4 = 4 from rfl), if_pos (show nI 0 ≤ 0 by decide)]
      · rw [if_neg (show ¬ nI (ob w k (w.ins k)) = 4 from nI_ne (b := 4) h4 (by omega) (by decide))]
    rw [hX30, f_Val_closeBlock_30]
    simp only [bd1_bd1]
    refine r_take T hx hm (by omega) (fun h' hb1 hb2 hb3 hb4 T' => ?_) (fun s' t' hVX hVM => ?_)
    · rw [in_0 T'.x0 hd10, T'.xb, bd1_some, T'.x1, T'.m16, gi_n (show w.dp k < 16 by omega) (by decide), nI_clamp (by omega), T'.mb, T'.m17, m147 _ _ (by simp (disch := first | decide | omega) only [stp_eq, stp_ne, stp_nj, stI1, stI2, stL1, stL_eq, stL_ne, stL_nj, gi_n, nI_clamp ]) (by simp (disch := first | decide | omega) only [stp_eq, stp_ne, stp_nj, stI1, stI2, stL1, stL_eq, stL_ne, stL_nj, gi_n, nI_clamp ]), m147 _ _ (by simp (disch := first | decide | omega) only [stp_eq, stp_ne, stp_nj, stI1, stI2, stL1, stL_eq, stL_ne, stL_nj, gi_n, nI_clamp ]) (by simp (disch := first | decide | omega) only [stp_eq, stp_ne, stp_nj, stI1, stI2, stL1, stL_eq, stL_ne, stL_nj, gi_n, nI_clamp ]), if_neg hbad]
      by_cases hhb : h' = bs w v (w.ins k)
      · subst hhb
        rw [if_pos rfl, if_pos rfl, f_Val_closeBlock_52, if_pos (show nI 11 = 11 from rfl), mw_t (by decide), bd1_some, f_M_validateBlock_195, mw_t (by decide), bd1_some, if_neg (show ¬ nI 11 = 5 by decide), T'.m16]
        simp only [lt1, f_Val_closeBlock_106, f_M_validateBlock_231, f_M_validateBlock_241]
        rw [T'.x0, nI_pred]
        have hwtl : v.lo k = 0 → v.hi k = bs w v (w.ins k) + gv w rs (w.ins k) := by
          intro hl
          have hd0 := hdd0 hl
          by_cases z : gv w rs (w.ins k) ≤ v.hi k - bs w v (w.ins k)
          · have := hb3 z; omega
          · have := hb4 z; omega
        by_cases hc : w.ins k = 0
        · have hdp0 := W.i3 k (by omega) hc
          rw [hc, if_pos neg1.symm, show nI (w.dp k) - 0 = nI (w.dp k) from pk_sub (b := 0) (Nat.zero_le _)]
          simp only [bd1_bd1, bd1_some]
          refine r_give (h := bs w v 0) (n := gv w rs 0) (by simp (disch := first | decide | omega) only [stp_eq, stp_ne, stp_nj, stI1, stI2, stL1, stL_eq, stL_ne, stL_nj, gi_n, nI_clamp ]; exact I.x3) (by simp (disch := first | decide | omega) only [stp_eq, stp_ne, stp_nj, stI1, stI2, stL1, stL_eq, stL_ne, stL_nj, gi_n, nI_clamp ]; exact I.m5) (by simp (disch := first | decide | omega) only [stp_eq, stp_ne, stp_nj, stI1, stI2, stL1, stL_eq, stL_ne, stL_nj, gi_n, nI_clamp ]) (by simp (disch := first | decide | omega) only [stp_eq, stp_ne, stp_nj, stI1, stI2, stL1, stL_eq, stL_ne, stL_nj, gi_n, nI_clamp ]) (by rw [hc] at hbh; omega) ((hx.p (by omega)).p (by omega)) ((hm.p0 (by omega)).p0 (by omega)) (by rw [hc] at hg1; omega) (fun hle => ?_) (fun s' t' hVX hVM => r_VV (hX9 _ _ hVX) (hM9 _ _ hVM))
          refine Z hc (v.set (k + 1) 0 0 0) _ _ (by simp (disch := first | decide | omega) only [stp_eq, stp_ne, stp_nj, stI1, stI2, stL1, stL_eq, stL_ne, stL_nj, gi_n, nI_clamp ]; exact I.x3) (by simp (disch := first | decide | omega) only [stp_eq, stp_ne, stp_nj, stI1, stI2, stL1, stL_eq, stL_ne, stL_nj, gi_n, nI_clamp ]; exact I.m5) (EqV.set v k _ _ _) (set_hik v) (set_lok v) (SR.gen W hkC I (EqV.set v k _ _ _) (fun q => ⟨fun z => by unfold lead at z; omega, fun _ => set_lok v⟩) (fun q => ⟨fun z => by omega, fun _ _ => set_lok v, fun _ z => ?_, fun _ z => absurd h11 z⟩) (fun _ z => absurd hc z) (fun z => by omega) (fun hl => ?_)) ((((X1.refl s).p (by omega)).p (by omega)).p (by omega)) ((((M1.refl t).p0 (by omega)).p0 (by omega)).p0 (by omega))
          · have := (I.e1 q).1; omega
          · refine ⟨fun z => by omega, fun z => by omega, fun z => by omega, fun _ => ?_, fun z => by omega, fun z => by omega, fun z => by omega, fun z => by omega, fun z => by omega, fun z => by omega, fun z => by omega, fun z => by omega, fun z => by omega, fun z => by omega⟩
            rw [set_hi v (by omega), set_bs v (by omega), hfn, ← hrs]
            exact hwtl hl
        · have hdp := (W.i2 k (by omega) hc).2.1
          obtain ⟨B, hB⟩ : ∃ B, w.ins k = B + 1 := ⟨w.ins k - 1, by omega⟩
          have hgv : gv w rs (w.ins k) = w.a (w.ins k - 1) := by rw [gv, if_neg hc]
          rw [if_neg (nIm_ne hc (by omega)), show nI (w.dp k) - 1 = nI (w.dp k - 1) from pk_sub (b := 1) (by omega)]
          simp only [bd1_bd1, bd1_some]
          refine r_give (h := bs w v (w.ins k)) (n := gv w rs (w.ins k)) (by simp (disch := first | decide | omega) only [stp_eq, stp_ne, stp_nj, stI1, stI2, stL1, stL_eq, stL_ne, stL_nj, gi_n, nI_clamp ]; exact I.x3) (by simp (disch := first | decide | omega) only [stp_eq, stp_ne, stp_nj, stI1, stI2, stL1, stL_eq, stL_ne, stL_nj, gi_n, nI_clamp ]; exact I.m5) (by simp (disch := first | decide | omega) only [stp_eq, stp_ne, stp_nj, stI1, stI2, stL1, stL_eq, stL_ne, stL_nj, gi_n, nI_clamp ]) (by simp (disch := first | decide | omega) only [stp_eq, stp_ne, stp_nj, stI1, stI2, stL1, stL_eq, stL_ne, stL_nj, gi_n, nI_clamp ]) (by omega) ((hx.p (by omega)).p (by omega)) ((hm.p0 (by omega)).p0 (by omega)) (by omega) (fun hle => ?_) (fun s' t' hVX hVM => r_VV (hX9 _ _ hVX) (hM9 _ _ hVM))
          refine N hc _ _ _ (I.shut (h' := bs w v (w.ins k) + gv w rs (w.ins k)) W hkC h11 hB hle (by omega) (by simp (disch := first | decide | omega) only [stp_eq, stp_ne, stp_nj, stI1, stI2, stL1, stL_eq, stL_ne, stL_nj, gi_n, nI_clamp ]) (by simp (disch := first | decide | omega) only [stp_eq, stp_ne, stp_nj, stI1, stI2, stL1, stL_eq, stL_ne, stL_nj, gi_n, nI_clamp ]) (by simp (disch := first | decide | omega) only [stp_eq, stp_ne, stp_nj, stI1, stI2, stL1, stL_eq, stL_ne, stL_nj, gi_n, nI_clamp ]) (by simp (disch := first | decide | omega) only [stp_eq, stp_ne, stp_nj, stI1, stI2, stL1, stL_eq, stL_ne, stL_nj, gi_n, nI_clamp ]; exact I.x3) (by simp (disch := first | decide | omega) only [stp_eq, stp_ne, stp_nj, stI1, stI2, stL1, stL_eq, stL_ne, stL_nj, gi_n, nI_clamp ]; exact I.m5) (by simp (disch := first | decide | omega) only [stp_eq, stp_ne, stp_nj, stI1, stI2, stL1, stL_eq, stL_ne, stL_nj, gi_n, nI_clamp ]) (by simp (disch := first | decide | omega) only [stp_eq, stp_ne, stp_nj, stI1, stI2, stL1, stL_eq, stL_ne, stL_nj, gi_n, nI_clamp ]) (by simp (disch := first | decide | omega) only [stp_eq, stp_ne, stp_nj, stI1, stI2, stL1, stL_eq, stL_ne, stL_nj, gi_n, nI_clamp ]) (by simp (disch := first | decide | omega) only [stp_eq, stp_ne, stp_nj, stI1, stI2, stL1, stL_eq, stL_ne, stL_nj, gi_n, nI_clamp ]) (by simp (disch := first | decide | omega) only [stp_eq, stp_ne, stp_nj, stI1, stI2, stL1, stL_eq, stL_ne, stL_nj, gi_n, nI_clamp ]) (by simp (disch := first | decide | omega) only [stp_eq, stp_ne, stp_nj, stI1, stI2, stL1, stL_eq, stL_ne, stL_nj, gi_n, nI_clamp ])) (EqV.set v k _ _ _) (SR.gen W hkC I (EqV.set v k _ _ _) (fun q => ⟨fun z => by unfold lead at z; omega, fun _ => ?_⟩) (fun q => ⟨fun z => by omega, fun _ z => ?_, fun _ z => ⟨?_, set_nsk v⟩, fun _ z => absurd h11 z⟩) (fun _ _ => ⟨by rw [set_hik, hgv], fun z => ?_, fun z1 z2 => ?_⟩) (fun z => by omega) (fun hl => ?_)) ((((X1.refl s).p (by omega)).p (by omega)).p (by omega)) ((((M1.refl t).p0 (by omega)).p0 (by omega)).p0 (by omega))
          · rw [set_lok]; split
            · rfl
            · exact q
          · rw [set_lok, if_pos z]
          · rw [set_lok, if_neg z]; exact q
          · rw [set_lok]
            by_cases hl : v.lo k = 0
            · split
              · rfl
              · exact hl
            · have hl' : v.lo k = 1 := by omega
              have := (I.e1 hl').2 0 (Nat.zero_le _)
              rw [ups, et, if_neg hc, z] at this
              rw [if_pos (by have := this.mp rfl; omega)]
          · by_cases z3 : gv w rs (w.ins k) = 0
            · rw [← hgv]; exact z3
            · exact absurd ⟨hob.mpr ⟨hc, z1, z2⟩, z3⟩ hbad
          · refine ⟨fun z => by omega, fun z => by omega, fun z => by omega, fun _ => ?_, fun z => by omega, fun z => by omega, fun z => by omega, fun z => by omega, fun z => by omega, fun z => by omega, fun z => by omega, fun z => by omega, fun z => by omega, fun z => by omega⟩
            rw [set_hi v (by omega), set_bs v (by omega), hfn, ← hrs]
            exact hwtl hl
      · have hne2 : ¬ nI h' = nI (bs w v (w.ins k)) := fun z => hhb ((nI_eq (by omega) (by omega)).mp z)
        rw [if_neg hne2, if_neg hne2, vr_0 T'.x3, bd1_some, mw_f T'.m5, bd1_some]
        have hVX : VX s0 3 (stp (stp s 3 1 (nI h')) 3 3 3) := ⟨by simp (disch := first | decide | omega) only [stp_eq, stp_ne, stp_nj, stI1, stI2, stL1, stL_eq, stL_ne, stL_nj, gi_n, nI_clamp ]; rfl, by decide, by decide, (hx.p (by omega)).p (by omega)⟩
        have hVM : VMd t0 3 (w.dp k) (stI (stI t 0 17 (nI h')) 0 5 3) := ⟨⟨by simp (disch := first | decide | omega) only [stp_eq, stp_ne, stp_nj, stI1, stI2, stL1, stL_eq, stL_ne, stL_nj, gi_n, nI_clamp ]; rfl, by decide, by decide, (hm.p0 (by omega)).p0 (by omega)⟩, by simp (disch := first | decide | omega) only [stp_eq, stp_ne, stp_nj, stI1, stI2, stL1, stL_eq, stL_ne, stL_nj, gi_n, nI_clamp ]; exact I.m16, by omega, dd, by simp (disch := first | decide | omega) only [stp_eq, stp_ne, stp_nj, stI1, stI2, stL1, stL_eq, stL_ne, stL_nj, gi_n, nI_clamp ]; exact L.m28, L.d1⟩
        exact r_VV (vx_52 hVX hX9) (vm_195 hVM hM9)
    · refine r_VV (e := 3) (vx_inn (fun r => ?_)) ?_
      · simp only [bd1_ite, bd1_bd1]
        split
        · exact vx_52 hVX hX9
        · exact vx_ref hVX (vx_52 hVX hX9)
      · have hd := hVM.2.2.1
        rw [hVM.2.1, gi_n hd (by decide)]
        simp only [bd1_ite]
        split
        · exact vm_147 (by omega) hVM hM9
        · exact vm_147 (by omega) hVM hM9
end ENDV
