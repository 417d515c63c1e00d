-- validation: blocks
def NVz {γ : Type} (s0 : St) (t0 : SM) (F kX : St → Option γ) (kM : SM → Option SM) (R : St → SM → Prop) (w : Cd) (v : Hv) (m : Md) (k : Nat) (s : St) (t : SM) : Prop :=
  ∀ v' s' t', s' 3 3 = 0 → t'.1 0 5 = 0 → EqV v v' k → v'.hi (k + 1) = 0 → v'.lo (k + 1) = 0 → SR w v' m k → X1 s s' → M1 t t' → o2 F some (kX s') (kM t') (VRB s0 t0 R)
theorem SR.gen {w : Cd} {C k f rs : Nat} {v v' : Hv} {m : Md} {s : St} {t : SM} (W : WF w C) (hk : k < C) (I : VI w v f rs k s t) (EV : EqV v v' k)
    (r0 : v.lo k = 0 → (lead (w.op k) → v'.lo (k + 1) = 1 ∧ v'.ns (k + 1) = 0) ∧ (¬ lead (w.op k) → v'.lo (k + 1) = 0))
    (r1 : v.lo k = 1 → (2 ≤ w.op k ∧ w.op k ≤ 4 → v'.lo (k + 1) = 1 ∧ v'.ns (k + 1) = v.ns k + 1) ∧ (w.op k = 5 ∨ w.op k = 11 → v.ns k = 0 → v'.lo (k + 1) = 0) ∧ (w.op k = 11 → v.ns k ≠ 0 → v'.lo (k + 1) = 1 ∧ v'.ns (k + 1) = v.ns k - 1) ∧ (¬ (2 ≤ w.op k ∧ w.op k ≤ 4) → w.op k ≠ 11 → ¬ (w.op k = 5 ∧ v.ns k = 0) → v'.lo (k + 1) = 1 ∧ v'.ns (k + 1) = v.ns k))
    (e11 : w.op k = 11 → w.ins k ≠ 0 → v'.hi (k + 1) = bs w v (w.ins k) + w.a (w.ins k - 1) ∧ (v.lo (w.ins k - 1) = 0 → v'.lo (k + 1) = 0) ∧ (w.op (w.ins k - 1) = 4 → w.el (w.ins k - 1) = 0 → w.a (w.ins k - 1) = 0)) (e5 : w.op k = 5 → v'.hi (k + 1) = bs w v (w.ins k) ∧ (v.lo (w.ins k - 1) = 0 → v'.lo (k + 1) = 0)) (wt : v.lo k = 0 → WT w v' m k) : SR w v' m k := by
  have hik := W.i1 k (by omega)
  obtain ⟨a1, a2, a3, -⟩ := EV k (Nat.le_refl _)
  obtain ⟨-, b2, -, -⟩ := EV (w.ins k - 1) (by omega)
  have hb : ∀ c, c ≤ k → bs w v' c = bs w v c := by
    intro c hc
    unfold bs
    split
    · rfl
    · exact (EV (c - 1) (by omega)).2.2.2 (by omega)
  refine ⟨by rw [a1]; exact I.h16, by rw [a2]; exact I.l1, by rw [a2]; exact r0, by rw [a2, a3]; exact r1, ?_, by rw [hb _ hik, b2]; exact e11, by rw [hb _ hik, b2]; exact e5, ?_, by rw [hb _ hik, a1]; exact I.bh, by rw [a2]; exact wt⟩
  · intro q1 q2
    rw [a2] at q2
    rw [b2]
    have := I.e0 q2 0 (Nat.zero_le _)
    rw [ups, et, if_neg q1] at this
    omega
  · intro q
    have hdp := (W.i2 k (by omega) q).2.1
    have := I.mo 0 (by omega)
    rw [ups, ups, up, if_neg q] at this
    rw [ups] at this
    have h2 := W.i1 (w.ins k - 1) (by omega)
    rw [hb _ hik, hb _ (by omega)]
    exact this
section BLK
variable {γ : Type} {s0 s : St} {t0 t : SM} {F kX : St → Option γ} {kM : SM → Option SM} {R : St → SM → Prop} {w : Cd} {v : Hv} {m : Md} {f rs k C nP : Nat}
theorem alive_x (I : VI w v f rs k s t) (hd : w.dp k ≤ 10) {s' : St} (h0 : s' 3 0 = s 3 0) (h28 : s' 28 = s 28) : f_Val_isAlive s' = some (nI (1 - v.lo k)) := by
  obtain ⟨dd, T, L, hdd0, hdd1⟩ := I.tp hd
  have hl1 := I.l1
  have het : et v (w.ins k) ≤ 1 := by unfold et; split <;> omega
  have e5 : f_Val_inner s' 5 = some (nI (et v (w.ins k))) := by rw [in_5 (h0.trans I.x0) hd, h28, L.x5]
  have e4 : f_Val_inner s' 4 = some (nI dd) := by rw [in_4 (h0.trans I.x0) hd, h28, L.x4]
  rw [f_Val_isAlive, e5, bd1_some, e4]
  simp only [bd1_some, f_Val_isAlive_20, f_Val_isAlive_21]
  have d1 := L.d1
  by_cases hl : v.lo k = 0
  · have q := I.e0 hl 0 (Nat.zero_le _)
    rw [ups] at q
    rw [q, hdd0 hl, hl, if_neg (show ¬ nI 1 = 0 by decide), if_pos (show nI 0 = 0 from rfl)]
    rfl
  · have hl' : v.lo k = 1 := by omega
    obtain ⟨q1, q2⟩ := I.e1 hl'
    have q3 := q2 0 (Nat.zero_le _)
    rw [ups] at q3
    rw [hl']
    by_cases hn : v.ns k = 0
    · rw [q3.mpr (by omega), hdd1 hl' hn, if_neg (show ¬ nI 1 = 0 by decide), if_neg (show ¬ nI 1 = 0 by decide)]
      rfl
    · have : et v (w.ins k) = 0 := by
        by_cases z : et v (w.ins k) = 1
        · have := q3.mp z; omega
        · omega
      rw [this, if_pos (show nI 0 = 0 from rfl)]
      rfl
theorem opnv (N : NV s0 t0 F kX kM R w v m f rs k s t) (I : VI w v f rs k s t) (W : WF w C) (hkC : k < C) (hC : C ≤ 240) (hfn : w.fn k = f) (ho : 2 ≤ w.op k ∧ w.op k ≤ 4) (RX : RwX w k (s 21)) (RM : RwM w k t) (hx : VXf s0 s) (hm : VMf t0 t)
    (hX9 : ∀ e s, VX s0 e s → okg F (kX s) (VX s0 e)) (hM9 : ∀ e t, VM t0 e t → okg some (kM t) (VM t0 e)) :
    o2 F some (bd1 (f_Val_judgeInstruction_18 (nI k) (nI (w.op k)) (xF (w.op k) (w.a k) (w.b k)) (nI (if w.op k = 4 then 1 else 0)) s) kX) (bd1 (f_M_validateBlock (nI f) (nI k) t) kM) (VRB s0 t0 R) := by
  obtain ⟨hkn, hok⟩ := W.ok k hkC
  have hd10 := W.d10 k (by omega)
  have hdk : w.dp (k + 1) = w.dp k + 1 := by rw [W.nd k hkC, dnx, if_pos ho]
  have hd10' := W.d10 (k + 1) (by omega)
  have hk2 : k < 250 := by omega
  have hik := W.i1 k (by omega)
  obtain ⟨dd, T, L, hdd0, hdd1⟩ := I.tp hd10
  have hl1 := I.l1
  have hbh := I.bh
  have h16 := I.h16
  have ha1 := hok.blk ho
  obtain ⟨y, hy⟩ : ∃ y, y = if w.op k = 4 then 1 else 0 := ⟨_, rfl⟩
  have hy1 : y ≤ 1 := by rw [hy]; split <;> omega
  rw [← hy, f_Val_judgeInstruction_18, f_M_validateBlock, gi_n hk2 (by decide)]
  simp only [lt1, nI_clamp (show k < 2 ^ 31 by omega), RM.c0]
  have hM : (if nI (w.op k) = 0 then bd1 (f_M_kill t) fun s2 => f_M_validateBlock_241 (nI f) (nI k) (nI (w.op k)) s2 else if nI (w.op k) < 2 then f_M_validateBlock_88 (nI f) (nI k) (nI (w.op k)) t else if 4 < nI (w.op k) then f_M_validateBlock_88 (nI f) (nI k) (nI (w.op k)) t else if nI (w.op k) = 4 then f_M_validateBlock_39 (nI f) (nI k) (nI (w.op k)) 1 t else f_M_validateBlock_39 (nI f) (nI k) (nI (w.op k)) 0 t) = f_M_validateBlock_39 (nI f) (nI k) (nI (w.op k)) (nI y) t := by
    by_cases h4 : w.op k = 4
    · rw [hy, if_pos h4]
      simp (disch := omega) only [nI_leI, nI_ltI, nI_eq, if_pos, if_neg, if_true, if_false , lit_0, lit_2, lit_4]
      rfl
    · rw [hy, if_neg h4]
      simp (disch := omega) only [nI_leI, nI_ltI, nI_eq, if_pos, if_neg, if_true, if_false , lit_0, lit_2, lit_4]
  rw [hM, f_M_validateBlock_39]
  simp only [bd1_bd1, f_Val_judgeInstruction_131, f_M_validateBlock_241]
  refine r_take T hx hm (by omega) (fun h' hb1 hb2 hb3 hb4 T' => ?_) (fun s' t' hVX hVM => ?_)
  · have eB : f_Cont_blockResults (stp s 3 1 (nI h')) (nI k) = some (nI (w.a k)) := by
      rw [f_Cont_blockResults]
      simp only [lt1, f_Cont_blockResults_19]
      have e1 : tGet 240 7 ((stp s 3 1 (nI h')) 21) (nI k) 1 = if w.a k = 1 then 127 else 64 := by simp (disch := first | decide | omega) only [stp_eq, stp_ne, stp_nj, stI1, stI2, stL1, stL_eq, stL_ne, stL_nj, gi_n, nI_clamp ]; rw [tg_240_7_1 (by omega), RX.c1, xF, if_pos ho]
      rw [e1]
      rcases (show w.a k = 0 ∨ w.a k = 1 by omega) with q | q
      · rw [q, if_neg (show ¬ (0 : Nat) = 1 by decide), if_neg (show ¬ (64 : Int32) = 127 by decide)]; rfl
      · rw [q, if_pos rfl, if_pos rfl]; rfl
    have eL : f_Cont_labelResults (stp s 3 1 (nI h')) (nI k) = some (nI (if w.op k = 3 then 0 else w.a k)) := by
      rw [f_Cont_labelResults]
      simp only [lt1, f_Cont_labelResults_32, f_Cont_labelResults_31]
      have e0 : tGet 240 7 ((stp s 3 1 (nI h')) 21) (nI k) 0 = nI (w.op k) := by simp (disch := first | decide | omega) only [stp_eq, stp_ne, stp_nj, stI1, stI2, stL1, stL_eq, stL_ne, stL_nj, gi_n, nI_clamp ]; rw [tg_240_7_0 (by omega), RX.c0]
      have e1 : tGet 240 7 ((stp s 3 1 (nI h')) 21) (nI k) 1 = if w.a k = 1 then 127 else 64 := by simp (disch := first | decide | omega) only [stp_eq, stp_ne, stp_nj, stI1, stI2, stL1, stL_eq, stL_ne, stL_nj, gi_n, nI_clamp ]; rw [tg_240_7_1 (by omega), RX.c1, xF, if_pos ho]
      rw [e0, e1]
      by_cases h3 : w.op k = 3
      · rw [h3, if_pos (show nI 3 = 3 from rfl), if_pos rfl]; rfl
      · rw [if_neg (show ¬ nI (w.op k) = 3 from nI_ne (b := 3) h3 (by omega) (by decide)), if_neg h3]
        rcases (show w.a k = 0 ∨ w.a k = 1 by omega) with q | q
        · rw [q, if_neg (show ¬ (0 : Nat) = 1 by decide), if_neg (show ¬ (64 : Int32) = 127 by decide)]; rfl
        · rw [q, if_pos rfl, if_pos rfl]; rfl
    have eA : f_Val_isAlive (stp s 3 1 (nI h')) = some (nI (1 - v.lo k)) := alive_x I hd10 (by simp (disch := first | decide | omega) only [stp_eq, stp_ne, stp_nj, stI1, stI2, stL1, stL_eq, stL_ne, stL_nj, gi_n, nI_clamp ]) (by simp (disch := first | decide | omega) only [stp_eq, stp_ne, stp_nj, stI1, stI2, stL1, stL_eq, stL_ne, stL_nj, gi_n, nI_clamp ])
    rw [eB, bd1_some, eL, bd1_some, f_Val_openBlock, T'.x0, if_neg (nI_ne0 (by omega) (by omega)), eA, bd1_some, f_Val_openBlock_15]
    simp only [lt1]
    rw [T'.x0, T'.m16, nI_1]
    rw [ts_11_6_0 (show w.dp k + 1 < 11 by omega)]
    simp (disch := first | decide | omega) only [stp_eq, stp_ne, stp_nj, stI1, stI2, stL1, stL_eq, stL_ne, stL_nj, gi_n, nI_clamp , T'.x0, T'.x1, T'.m17, I.x0, ts_11_6_1 (show w.dp k + 1 < 11 by omega)]
    rw [ts_11_6_2 (show w.dp k + 1 < 11 by omega)]
    simp (disch := first | decide | omega) only [stp_eq, stp_ne, stp_nj, stI1, stI2, stL1, stL_eq, stL_ne, stL_nj, gi_n, nI_clamp , I.x0, ts_11_6_3 (show w.dp k + 1 < 11 by omega)]
    rw [ts_11_6_4 (show w.dp k + 1 < 11 by omega)]
    simp (disch := first | decide | omega) only [stp_eq, stp_ne, stp_nj, stI1, stI2, stL1, stL_eq, stL_ne, stL_nj, gi_n, nI_clamp , I.x0, ts_11_6_5 (show w.dp k + 1 < 11 by omega), nI_1, gi_n (show w.dp k + 1 < 16 by omega) (show 16 < 2 ^ 31 by decide), nI_clamp (show w.dp k + 1 < 2 ^ 31 by omega)]
    rw [bz0, bd1_some, bd1_some]
    have hi4 : ∀ V : Hv, True := fun _ => trivial
    refine N ((v.set (k + 1) h' (v.lo k) (if v.lo k = 0 then 0 else v.ns k + 1)).setb k h') _ _ (I.opn W hkC ho (by omega) hb1 ?_ ?_ ?_ ?_ ?_ ?_ ?_ ?_ ?_ ?_ ?_ ?_ ?_ ?_ ?_ ?_ ?_ ?_) (fun i hi => ⟨fu_ne _ _ (by omega), fu_ne _ _ (by omega), fu_ne _ _ (by omega), fun z => fu_ne _ _ (by omega)⟩) (SR.gen W hkC I (fun i hi => ⟨fu_ne _ _ (by omega), fu_ne _ _ (by omega), fu_ne _ _ (by omega), fun z => fu_ne _ _ (by omega)⟩) ?_ ?_ (fun z => by omega) (fun z => by omega) ?_) ?_ ?_
    · simp (disch := first | decide | omega) only [stp_eq, stp_ne, stp_nj, stI1, stI2, stL1, stL_eq, stL_ne, stL_nj, gi_n, nI_clamp ]
    · simp (disch := first | decide | omega) only [stp_eq, stp_ne, stp_nj, stI1, stI2, stL1, stL_eq, stL_ne, stL_nj, gi_n, nI_clamp ]
    · simp (disch := first | decide | omega) only [stp_eq, stp_ne, stp_nj, stI1, stI2, stL1, stL_eq, stL_ne, stL_nj, gi_n, nI_clamp ]
    · simp (disch := first | decide | omega) only [stp_eq, stp_ne, stp_nj, stI1, stI2, stL1, stL_eq, stL_ne, stL_nj, gi_n, nI_clamp ]; exact I.x3
    · simp (disch := first | decide | omega) only [stp_eq, stp_ne, stp_nj, stI1, stI2, stL1, stL_eq, stL_ne, stL_nj, gi_n, nI_clamp ]; exact I.m5
    · simp (disch := first | decide | omega) only [stp_eq, stp_ne, stp_nj, stI1, stI2, stL1, stL_eq, stL_ne, stL_nj, gi_n, nI_clamp ]
    · simp (disch := first | decide | omega) only [stp_eq, stp_ne, stp_nj, stI1, stI2, stL1, stL_eq, stL_ne, stL_nj, gi_n, nI_clamp ]
    · intro q hq; simp (disch := first | decide | omega) only [stp_eq, stp_ne, stp_nj, stI1, stI2, stL1, stL_eq, stL_ne, stL_nj, gi_n, nI_clamp ]
    · intro q hq
      refine ⟨?_, ?_, ?_⟩ <;> (simp (disch := first | decide | omega) only [stp_eq, stp_ne, stp_nj, stI1, stI2, stL1, stL_eq, stL_ne, stL_nj, gi_n, nI_clamp ])
    · simp (disch := first | decide | omega) only [stp_eq, stp_ne, stp_nj, stI1, stI2, stL1, stL_eq, stL_ne, stL_nj, gi_n, nI_clamp ]
    · simp (disch := first | decide | omega) only [stp_eq, stp_ne, stp_nj, stI1, stI2, stL1, stL_eq, stL_ne, stL_nj, gi_n, nI_clamp ]
    · simp (disch := first | decide | omega) only [stp_eq, stp_ne, stp_nj, stI1, stI2, stL1, stL_eq, stL_ne, stL_nj, gi_n, nI_clamp ]
    · simp (disch := first | decide | omega) only [stp_eq, stp_ne, stp_nj, stI1, stI2, stL1, stL_eq, stL_ne, stL_nj, gi_n, nI_clamp ]
    · simp (disch := first | decide | omega) only [stp_eq, stp_ne, stp_nj, stI1, stI2, stL1, stL_eq, stL_ne, stL_nj, gi_n, nI_clamp ]
    · simp (disch := first | decide | omega) only [stp_eq, stp_ne, stp_nj, stI1, stI2, stL1, stL_eq, stL_ne, stL_nj, gi_n, nI_clamp ]
    · simp (disch := first | decide | omega) only [stp_eq, stp_ne, stp_nj, stI1, stI2, stL1, stL_eq, stL_ne, stL_nj, gi_n, nI_clamp ]
    · simp (disch := first | decide | omega) only [stp_eq, stp_ne, stp_nj, stI1, stI2, stL1, stL_eq, stL_ne, stL_nj, gi_n, nI_clamp ]
    · simp (disch := first | decide | omega) only [stp_eq, stp_ne, stp_nj, stI1, stI2, stL1, stL_eq, stL_ne, stL_nj, gi_n, nI_clamp ]
    · intro q
      refine ⟨fun z => by unfold lead at z; omega, fun _ => ?_⟩
      exact (fu_eq _ _ _).trans q
    · intro q
      refine ⟨fun _ => ⟨(fu_eq _ _ _).trans q, (fu_eq _ _ _).trans (if_neg (by omega))⟩, fun z => by omega, fun z => by omega, fun z => absurd ho z⟩
    · intro hl
      have hd0 := hdd0 hl
      have ehi : ((v.set (k + 1) h' (v.lo k) (if v.lo k = 0 then 0 else v.ns k + 1)).setb k h').hi (k + 1) = h' := fu_eq _ _ _
      have ehk : ((v.set (k + 1) h' (v.lo k) (if v.lo k = 0 then 0 else v.ns k + 1)).setb k h').hi k = v.hi k := fu_ne _ _ (by omega)
      have ebk : ((v.set (k + 1) h' (v.lo k) (if v.lo k = 0 then 0 else v.ns k + 1)).setb k h').bb k = h' := fu_eq _ _ _
      have hle : y ≤ v.hi k - bs w v (w.ins k) := by
        by_cases z : y ≤ v.hi k - bs w v (w.ins k)
        · exact z
        · have := hb4 z; omega
      have hh' := hb3 hle
      refine ⟨fun z => by omega, fun z => ?_, fun z => ?_, fun z => by omega, fun z => by omega, fun z => by omega, fun z => by omega, fun z => by omega, fun z => by omega, fun z => by omega, fun z => by omega, fun z => by omega, fun z => by omega, fun z => by omega⟩
      · rw [ehi, ehk, ebk]
        rw [if_neg (by omega)] at hy
        exact ⟨by omega, by omega⟩
      · rw [ehi, ehk, ebk]
        rw [if_pos z] at hy
        exact ⟨by omega, by omega, by omega⟩
    · exact ((((((((X1.refl s).p (by omega)).p (by omega)).p (by omega)).p (by omega)).p (by omega)).p (by omega)).p (by omega)).p (by omega)
    · exact ((((((M1.refl t).p0 (by omega)).p0 (by omega)).p (by omega)).p (by omega)).p (by omega))
  · obtain ⟨r1, hr1⟩ : ∃ r, f_Cont_blockResults s' (nI k) = some r := by
      rw [f_Cont_blockResults]
      simp only [lt1, f_Cont_blockResults_19]
      split
      · exact ⟨_, rfl⟩
      · exact ⟨_, rfl⟩
    obtain ⟨r2, hr2⟩ : ∃ r, f_Cont_labelResults s' (nI k) = some r := by
      rw [f_Cont_labelResults]
      simp only [lt1, f_Cont_labelResults_32, f_Cont_labelResults_31]
      split
      · exact ⟨_, rfl⟩
      · split
        · exact ⟨_, rfl⟩
        · exact ⟨_, rfl⟩
    rw [hr1, bd1_some, hr2, bd1_some]
    refine r_VV (vx_open hVX (fun s hs => hX9 _ _ hs)) ?_
    simp only [lt1]
    rw [hVM.2.1, nI_1]
    simp (disch := first | decide | omega) only [stp_eq, stp_ne, stp_nj, stI1, stI2, stL1, stL_eq, stL_ne, stL_nj, gi_n, nI_clamp , gi_n (show w.dp k + 1 < 16 by omega) (show 16 < 2 ^ 31 by decide), bz0, bd1_some]
    exact hM9 _ _ ((((hVM.1.p0 (by omega)).p (by omega)).p (by omega)).p (by omega))
end BLK
