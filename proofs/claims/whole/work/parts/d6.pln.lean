-- validation: one row is judged
def VRB (s0 : St) (t0 : SM) (R : St → SM → Prop) (s : St) (t : SM) : Prop := R s t ∨ ∃ e, VX s0 e s ∧ VM t0 e t
theorem r_VV {γ δ : Type} {s0 : St} {t0 : SM} {e : Nat} {P : St → SM → Prop} {F : St → Option γ} {G : SM → Option δ} {a : Option γ} {b : Option δ} (hX : okg F a (VX s0 e)) (hM : okg G b (VM t0 e)) : o2 F G a b (VRB s0 t0 P) :=
  o2.of hX hM (fun _ _ qx qy => Or.inr ⟨e, qx, qy⟩)
def X1 (s s' : St) : Prop := ∀ a, a ≠ 3 → a ≠ 28 → s' a = s a
def M1 (t t' : SM) : Prop :=
  (∀ a, a ≠ 0 → a ≠ 26 → a ≠ 27 → a ≠ 28 → t'.1 a = t.1 a) ∧
  (t'.2 = t.2) ∧
  (∀ j, j ≠ 5 → j ≠ 16 → j ≠ 17 → t'.1 0 j = t.1 0 j)
theorem M1.c {t t' : SM} (q0_ : M1 t t') : ∀ a, a ≠ 0 → a ≠ 26 → a ≠ 27 → a ≠ 28 → t'.1 a = t.1 a := q0_.1
theorem M1.l {t t' : SM} (q0_ : M1 t t') : t'.2 = t.2 := q0_.2.1
theorem M1.z {t t' : SM} (q0_ : M1 t t') : ∀ j, j ≠ 5 → j ≠ 16 → j ≠ 17 → t'.1 0 j = t.1 0 j := q0_.2.2
theorem X1.refl (s : St) : X1 s s := fun _ _ _ => rfl
theorem M1.refl (t : SM) : M1 t t := ⟨fun _ _ _ _ _ => rfl, rfl, fun _ _ _ _ => rfl⟩
theorem X1.p {s s' : St} {k j : Nat} {v : Int32} (hk : k = 3 ∨ k = 28) (h : X1 s s') : X1 s (stp s' k j v) := fun a h1 h2 => by rw [stp_ne _ _ _ (by omega)]; exact h a h1 h2
theorem M1.p {t t' : SM} {k j : Nat} {v : Int32} (hk : k = 26 ∨ k = 27 ∨ k = 28) (h : M1 t t') : M1 t (stI t' k j v) :=
  ⟨fun a h0 h1 h2 h3 => by rw [stI1, stp_ne _ _ _ (by omega)]; exact h.c a h0 h1 h2 h3, h.l, fun i h1 h2 h3 => by rw [stI1, stp_ne _ _ _ (by omega)]; exact h.z i h1 h2 h3⟩
theorem M1.p0 {t t' : SM} {j : Nat} {v : Int32} (hj : j = 5 ∨ j = 16 ∨ j = 17) (h : M1 t t') : M1 t (stI t' 0 j v) :=
  ⟨fun a h0 h1 h2 h3 => by rw [stI1, stp_ne _ _ _ h0]; exact h.c a h0 h1 h2 h3, h.l, fun i h1 h2 h3 => by rw [stI1, stp_nj _ _ _ (by omega)]; exact h.z i h1 h2 h3⟩
theorem X1.f {s0 s s' : St} (h : VXf s0 s) (h2 : X1 s s') : VXf s0 s' := fun a q1 q2 q3 => (h2 a q1 q3).trans (h a q1 q2 q3)
theorem M1.f {t0 t t' : SM} (h : VMf t0 t) (h2 : M1 t t') : VMf t0 t' := ⟨fun a q0 q1 q2 q3 q4 => (h2.c a q0 q2 q3 q4).trans (h.c a q0 q1 q2 q3 q4), h2.l.trans h.l, fun j q1 q2 q3 => (h2.z j q1 q2 q3).trans (h.z j q1 q2 q3)⟩
def EqV (v v' : Hv) (k : Nat) : Prop := ∀ i, i ≤ k → v'.hi i = v.hi i ∧ v'.lo i = v.lo i ∧ v'.ns i = v.ns i ∧ (i < k → v'.bb i = v.bb i)
theorem EqV.set (v : Hv) (k h l n : Nat) : EqV v (v.set (k + 1) h l n) k := fun i hi => ⟨set_hi v (by omega), set_lo v (by omega), set_ns v (by omega), fun _ => rfl⟩
def NV {γ : Type} (s0 : St) (t0 : SM) (F kX : St → Option γ) (kM : SM → Option SM) (R : St → SM → Prop) (w : Cd) (v : Hv) (m : Md) (f rs k : Nat) (s : St) (t : SM) : Prop :=
  ∀ v' s' t', VI w v' f rs (k + 1) s' t' → EqV v v' k → SR w v' m k → X1 s s' → M1 t t' → o2 F some (kX s') (kM t') (VRB s0 t0 R)
section SRP
variable {w : Cd} {C k f rs : Nat} {v : Hv} {m : Md} {s : St} {t : SM}
theorem SR.pl {h' l' n' : Nat} (W : WF w C) (hk : k < C) (I : VI w v f rs k s t) (ho : ¬ (2 ≤ w.op k ∧ w.op k ≤ 4)) (h5 : w.op k ≠ 5) (h11 : w.op k ≠ 11)
    (hl : lead (w.op k) → l' = 1 ∧ (v.lo k = 0 → n' = 0) ∧ (v.lo k = 1 → n' = v.ns k)) (hnl : ¬ lead (w.op k) → l' = v.lo k ∧ n' = v.ns k) (hwt : v.lo k = 0 → WT w (v.set (k + 1) h' l' n') m k) : SR w (v.set (k + 1) h' l' n') m k := by
  have hik := W.i1 k (by omega)
  have e1 := set_hi v (k := k + 1) (h := h') (l := l') (n := n') (i := k) (by omega)
  have e2 := set_lo v (k := k + 1) (h := h') (l := l') (n := n') (i := k) (by omega)
  have e3 := set_ns v (k := k + 1) (h := h') (l := l') (n := n') (i := k) (by omega)
  have e4 : (v.set (k + 1) h' l' n').lo (k + 1) = l' := set_lok v
  have e5 : (v.set (k + 1) h' l' n').ns (k + 1) = n' := set_nsk v
  have e6 := set_lo v (k := k + 1) (h := h') (l := l') (n := n') (i := w.ins k - 1) (by omega)
  have e7 := set_bs (w := w) v (k := k + 1) (h := h') (l := l') (n := n') (c := w.ins k) (by omega)
  refine ⟨by rw [e1]; exact I.h16, by rw [e2]; exact I.l1, ?_, ?_, ?_, fun q => absurd q h11, fun q => absurd q h5, ?_, by rw [e7, e1]; exact I.bh, fun q => hwt (by rw [e2] at q; exact q)⟩
  · rw [e2, e4, e5]
    intro q
    refine ⟨fun z => ⟨(hl z).1, (hl z).2.1 q⟩, fun z => ?_⟩
    rw [(hnl z).1]; exact q
  · rw [e2, e4, e5, e3]
    intro q
    refine ⟨fun z => absurd z ho, fun z => by omega, fun z => absurd z h11, fun _ _ _ => ?_⟩
    by_cases z : lead (w.op k)
    · exact ⟨(hl z).1, (hl z).2.2 q⟩
    · obtain ⟨a, b⟩ := hnl z
      exact ⟨by omega, b⟩
  · intro q1 q2
    rw [e2] at q2
    rw [e6]
    have := I.e0 q2 0 (Nat.zero_le _)
    rw [ups, et, if_neg q1] at this
    omega
  · intro q
    have hdp := (W.i2 k (by omega) q).2.1
    have := I.mo 0 (by omega)
    rw [ups, ups, up, if_neg q] at this
    rw [ups] at this
    have h2 := W.i1 (w.ins k - 1) (by omega)
    rw [e7, set_bs v (by omega)]
    exact this
end SRP
section PLN
variable {γ : Type} {s0 s : St} {t0 t : SM} {F kX : St → Option γ} {kM : SM → Option SM} {R : St → SM → Prop} {w : Cd} {v : Hv} {m : Md} {f rs k C : Nat}
theorem pln2 (N : NV s0 t0 F kX kM R w v m f rs k s t) (I : VI w v f rs k s t) (W : WF w C) (hkC : k < C) (hC : C ≤ 240) (E : Env m s t) (hf : f < m.nF) (hfn : w.fn k = f) (ho : w.op k < 256) (h16 : 16 < w.op k) (RX : RwX w k (s 21)) (RM : RwM w k t) (hx : VXf s0 s) (hm : VMf t0 t)
    (hX9 : ∀ e s, VX s0 e s → okg F (kX s) (VX s0 e)) (hM9 : ∀ e t, VM t0 e t → okg some (kM t) (VM t0 e)) :
    o2 F some (bd1 (f_Val_judgeOperands (nI k) (nI (w.op k)) (xF (w.op k) (w.a k) (w.b k)) s) fun s3 => bd1 (f_Op_takes (nI (w.op k))) fun r4 => bd1 (f_Val_take r4 s3) fun s5 => bd1 (f_Op_gives (nI (w.op k))) fun r6 => bd1 (f_Val_give r6 s5) kX) (bd1 (f_M_validatePlain (nI f) (nI k) t) kM) (VRB s0 t0 R) := by
  obtain ⟨hkn, hok⟩ := W.ok k hkC
  have hd10 := W.d10 k (by omega)
  obtain ⟨dd, T, L, hdd0, hdd1⟩ := I.tp hd10
  obtain ⟨q1, q2, q3, q4⟩ := tk_x (w.op k) ho hkn h16
  have hX := opx E hf (show k < 240 by omega) ho hkn h16 hok RX I.x2 I.x3
  have hM := opm E hf (show k < 240 by omega) ho hkn h16 hok RM I.m5
  have htks : tks (w.op k) ≤ 3 := by unfold tks; split; omega; split; omega; split <;> omega
  have hgvs : gvs (w.op k) ≤ 1 := by unfold gvs; split <;> omega
  have hl1 := I.l1
  have hn4 : ¬ (2 ≤ w.op k ∧ w.op k ≤ 4) := by omega
  have hnl : ¬ lead (w.op k) := by unfold lead; omega
  simp only [q1, q3, bd1_some]
  by_cases hv : vop w m f k
  · rw [hX.1 hv, hM.1 hv, bd1_some, opmR]
    simp only [bd1_bd1, bd1_ite, bd1_some]
    refine r_take T hx hm (by omega) (fun h' hb1 hb2 hb3 hb4 T' => ?_) (fun s' t' hVX hVM => ?_)
    · have goal : ∀ h2, h2 ≤ 16 → h2 = h' + gvs (w.op k) → o2 F some (kX (stp (stp s 3 1 (nI h')) 3 1 (nI h2))) (kM (stI (stI t 0 17 (nI h')) 0 17 (nI h2))) (VRB s0 t0 R) := by
        intro h2 hh hh2
        refine N (v.set (k + 1) h2 (v.lo k) (v.ns k)) _ _ (I.next (dd' := dd) W hkC hn4 (by omega) (by omega) hh (by omega) (by simp (disch := first | decide | omega) only [stp_eq, stp_ne, stp_nj, stI1, stI2, stL1, stL_eq, stL_ne, stL_nj, gi_n, nI_clamp ]) (by simp (disch := first | decide | omega) only [stp_eq, stp_ne, stp_nj, stI1, stI2, stL1, stL_eq, stL_ne, stL_nj, gi_n, nI_clamp ]) (by simp (disch := first | decide | omega) only [stp_eq, stp_ne, stp_nj, stI1, stI2, stL1, stL_eq, stL_ne, stL_nj, gi_n, nI_clamp ]) (by simp (disch := first | decide | omega) only [stp_eq, stp_ne, stp_nj, stI1, stI2, stL1, stL_eq, stL_ne, stL_nj, gi_n, nI_clamp ]; exact I.x3) (by simp (disch := first | decide | omega) only [stp_eq, stp_ne, stp_nj, stI1, stI2, stL1, stL_eq, stL_ne, stL_nj, gi_n, nI_clamp ]; exact I.m5) (by simp (disch := first | decide | omega) only [stp_eq, stp_ne, stp_nj, stI1, stI2, stL1, stL_eq, stL_ne, stL_nj, gi_n, nI_clamp ]) (by simp (disch := first | decide | omega) only [stp_eq, stp_ne, stp_nj, stI1, stI2, stL1, stL_eq, stL_ne, stL_nj, gi_n, nI_clamp ]) (by simp (disch := first | decide | omega) only [stp_eq, stp_ne, stp_nj, stI1, stI2, stL1, stL_eq, stL_ne, stL_nj, gi_n, nI_clamp ]) (by simp (disch := first | decide | omega) only [stp_eq, stp_ne, stp_nj, stI1, stI2, stL1, stL_eq, stL_ne, stL_nj, gi_n, nI_clamp ]) (fun q _ => by simp (disch := first | decide | omega) only [stp_eq, stp_ne, stp_nj, stI1, stI2, stL1, stL_eq, stL_ne, stL_nj, gi_n, nI_clamp ]) (fun q _ => by simp (disch := first | decide | omega) only [stp_eq, stp_ne, stp_nj, stI1, stI2, stL1, stL_eq, stL_ne, stL_nj, gi_n, nI_clamp ]) (by simp (disch := first | decide | omega) only [stp_eq, stp_ne, stp_nj, stI1, stI2, stL1, stL_eq, stL_ne, stL_nj, gi_n, nI_clamp ]; exact L.x4) (by simp (disch := first | decide | omega) only [stp_eq, stp_ne, stp_nj, stI1, stI2, stL1, stL_eq, stL_ne, stL_nj, gi_n, nI_clamp ]; exact L.m28) L.d1 hl1 (fun q => ⟨q, hdd0 q⟩) (fun q => Or.inr ⟨q, rfl, fun z => hdd1 q z⟩)) (EqV.set v k h2 _ _) (SR.pl W hkC I hn4 (by omega) (by omega) (fun q => absurd q hnl) (fun _ => ⟨rfl, rfl⟩) (fun q => ?_)) (((X1.refl s).p (by omega)).p (by omega)) (((M1.refl t).p0 (by omega)).p0 (by omega))
        have hd0 := hdd0 q
        have hle : tks (w.op k) ≤ v.hi k - bs w v (w.ins k) := by
          by_cases z : tks (w.op k) ≤ v.hi k - bs w v (w.ins k)
          · exact z
          · have := hb4 z; omega
        have hh' := hb3 hle
        have hbh := I.bh
        have hik := W.i1 k (by omega)
        refine ⟨fun z => by omega, fun z => by omega, fun z => by omega, fun z => by omega, fun z => by omega, fun z => by omega, fun z => by omega, fun z => by omega, fun z => by omega, fun _ => ?_, fun z => by rw [hfn]; exact hv.1 z, hv.2.1, fun z => hv.2.2.1 z (hv.2.1 (Or.inr z)), hv.2.2.2.1⟩
        rw [set_bs v (by omega), set_hi v (by omega), set_hik]
        exact ⟨by omega, by omega⟩
      have h16' := I.h16
      have hh40 := T'.h40
      by_cases hg : gvs (w.op k) = 0
      · rw [hg, if_pos rfl, f_Val_give]
        have hle : h' ≤ 16 := by omega
        simp only [lt1]
        have e1 : (stp s 3 1 (nI h')) 3 1 + nI 0 = nI h' := by simp (disch := first | decide | omega) only [stp_eq, stp_ne, stp_nj, stI1, stI2, stL1, stL_eq, stL_ne, stL_nj, gi_n, nI_clamp ]; rw [nI_add]; rfl
        rw [e1]
        simp (disch := first | decide | omega) only [stp_eq, stp_ne, stp_nj, stI1, stI2, stL1, stL_eq, stL_ne, stL_nj, gi_n, nI_clamp ]
        rw [if_pos (show nI h' ≤ 16 from nI_le (b := 16) hle (by decide)), f_Val_give_24, bd1_some]
        have := goal h' hle (by omega)
        rw [stI_stI] at this
        exact this
      · have hg1 : gvs (w.op k) = 1 := by omega
        rw [hg1, if_neg (by decide)]
        refine r_give (n := 1) T'.x3 T'.m5 T'.x1 T'.m17 hh40 (hx.p (by omega)) (hm.p0 (by omega)) (by decide) (fun hle => ?_) (fun s' t' hVX hVM => r_VV (hX9 _ _ hVX) (hM9 _ _ hVM))
        exact goal (h' + 1) hle (by omega)
    · refine r_VV (vx_give hVX (fun s hs => hX9 _ _ hs)) ?_
      split
      · exact hM9 _ _ hVM.1
      · exact vm_push hVM.1 (hM9 _ _ (hVM.1.p0 (by omega)))
  · rw [hX.2 hv, hM.2 hv, bd1_some, bd1_some]
    refine r_VV (vx_take ⟨by simp (disch := first | decide | omega) only [stp_eq, stp_ne, stp_nj, stI1, stI2, stL1, stL_eq, stL_ne, stL_nj, gi_n, nI_clamp ]; rfl, by decide, by decide, hx.p (by omega)⟩ (fun s hs => vx_give hs (fun s hs => hX9 _ _ hs))) (hM9 _ _ ⟨by simp (disch := first | decide | omega) only [stp_eq, stp_ne, stp_nj, stI1, stI2, stL1, stL_eq, stL_ne, stL_nj, gi_n, nI_clamp ]; rfl, by decide, by decide, hm.p0 (by omega)⟩)
end PLN
