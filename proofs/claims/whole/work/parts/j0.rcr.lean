-- register code: where entries stand and what they hold
def cst (w : Cd) (v : Hv) (k : Nat) : Nat := if w.op k = 11 then (if w.ins k = 0 then 1 else 0) else if v.lo k = 0 then (if w.op k = 14 then w.a k + 2 else 1) else 0
def ent (w : Cd) (v : Hv) : Nat → Nat
  | 0 => 0
  | k + 1 => ent w v k + cst w v k
theorem ent_s (w : Cd) (v : Hv) (k : Nat) : ent w v (k + 1) = ent w v k + cst w v k := rfl
theorem ent_mono (w : Cd) (v : Hv) (k : Nat) : ∀ d, ent w v k ≤ ent w v (k + d) := by
  intro d
  induction d with
  | zero => exact Nat.le_refl _
  | succ d ih => rw [← Nat.add_assoc, ent_s]; omega
theorem ent_cs (w : Cd) (v : Hv) : ∀ k, ent w v k ≤ cs w k := by
  intro k
  induction k with
  | zero => exact Nat.le_refl _
  | succ k ih =>
    rw [ent_s]
    show _ ≤ cs w k + cost (w.op k) (w.a k)
    have : cst w v k ≤ cost (w.op k) (w.a k) := by
      unfold cst cost
      split
      · split <;> split <;> omega
      · split
        · exact Nat.le_refl _
        · omega
    omega
def tg (w : Cd) (v : Hv) (ls c : Nat) : Nat := if c = 0 then ent w v ls else if w.op (c - 1) = 3 then ent w v c else ent w v (w.en (c - 1) - 1)
def lf (w : Cd) (v : Hv) (m : Md) (f c : Nat) : Nat := 2 * (m.loc f + bs w v c) + tk w (m.res f) c
def X1w (w : Cd) (v : Hv) (m : Md) (k : Nat) : Nat := m.loc (w.fn k) + (if w.op k = 11 then m.res (w.fn k) else v.hi k)
def X2w (w : Cd) (v : Hv) (bgf lsf : Nat → Nat) (k : Nat) : Int32 := if w.op k = 12 ∨ w.op k = 13 then nI (tg w v (lsf (w.fn k)) (ups w.ins (w.a k) (w.ins k))) else if w.op k = 4 then nI (ent w v (if w.el k = 0 then w.en k - 1 else w.el k)) else if w.op k = 5 then nI (ent w v (w.en (w.ins k - 1) - 1)) else if w.op k = 16 then nI (ent w v (bgf (w.a k))) else if w.op k = 2 ∨ w.op k = 3 then 0 else xF (w.op k) (w.a k) (w.b k)
def X3w (w : Cd) (v : Hv) (m : Md) (k : Nat) : Nat := if w.op k = 12 ∨ w.op k = 13 then lf w v m (w.fn k) (ups w.ins (w.a k) (w.ins k)) else if w.op k = 16 then m.par (w.a k) else if w.op k = 15 ∨ w.op k = 11 then m.res (w.fn k) else 0
/-- the words of an entry -/
def W4 (r : Nat → Int32) (n o a1 : Nat) (a2 : Int32) (a3 : Nat) : Prop :=
  (r (n * 4 + 0) = nI o) ∧
  (r (n * 4 + 1) = nI a1) ∧
  (r (n * 4 + 2) = a2) ∧
  (r (n * 4 + 3) = nI a3)
theorem W4.c0 {r : Nat → Int32} {n o a1 : Nat} {a2 : Int32} {a3 : Nat} (q0_ : W4 r n o a1 a2 a3) : r (n * 4 + 0) = nI o := q0_.1
theorem W4.c1 {r : Nat → Int32} {n o a1 : Nat} {a2 : Int32} {a3 : Nat} (q0_ : W4 r n o a1 a2 a3) : r (n * 4 + 1) = nI a1 := q0_.2.1
theorem W4.c2 {r : Nat → Int32} {n o a1 : Nat} {a2 : Int32} {a3 : Nat} (q0_ : W4 r n o a1 a2 a3) : r (n * 4 + 2) = a2 := q0_.2.2.1
theorem W4.c3 {r : Nat → Int32} {n o a1 : Nat} {a2 : Int32} {a3 : Nat} (q0_ : W4 r n o a1 a2 a3) : r (n * 4 + 3) = nI a3 := q0_.2.2.2
/-- the rows that have entries -/
def hasE (w : Cd) (v : Hv) (k : Nat) : Prop := (v.lo k = 0 ∧ w.op k ≠ 11) ∨ (w.op k = 11 ∧ w.ins k = 0)
def RCr (w : Cd) (v : Hv) (m : Md) (C : Nat) (bgf : Nat → Nat) (lsf : Nat → Nat) (s : St) (t : SM) : Prop :=
  (∀ f, f < m.nF → FnS w C f s t (bgf f) (lsf f)) ∧
  (ent w v C ≤ 240) ∧
  (∀ k, k < C → s 21 (k * 7 + 6) = nI (ent w v k)) ∧
  (∀ k, k < C → hasE w v k → W4 (s 30) (ent w v k) (w.op k) (X1w w v m k) (X2w w v bgf lsf k) (X3w w v m k)) ∧
  (∀ k, k < C → v.lo k = 0 → w.op k = 14 → ∀ i, i ≤ w.a k → W4 (s 30) (ent w v k + 1 + i) 12 (m.loc (w.fn k) + v.hi k - 1) (nI (tg w v (lsf (w.fn k)) (ups w.ins (w.pl (w.b k + i)) (w.ins k)))) (lf w v m (w.fn k) (ups w.ins (w.pl (w.b k + i)) (w.ins k))))
theorem RCr.fs {w : Cd} {v : Hv} {m : Md} {C : Nat} {bgf : Nat → Nat} {lsf : Nat → Nat} {s : St} {t : SM} (q0_ : RCr w v m C bgf lsf s t) : ∀ f, f < m.nF → FnS w C f s t (bgf f) (lsf f) := q0_.1
theorem RCr.e24 {w : Cd} {v : Hv} {m : Md} {C : Nat} {bgf : Nat → Nat} {lsf : Nat → Nat} {s : St} {t : SM} (q0_ : RCr w v m C bgf lsf s t) : ent w v C ≤ 240 := q0_.2.1
theorem RCr.col {w : Cd} {v : Hv} {m : Md} {C : Nat} {bgf : Nat → Nat} {lsf : Nat → Nat} {s : St} {t : SM} (q0_ : RCr w v m C bgf lsf s t) : ∀ k, k < C → s 21 (k * 7 + 6) = nI (ent w v k) := q0_.2.2.1
theorem RCr.wd {w : Cd} {v : Hv} {m : Md} {C : Nat} {bgf : Nat → Nat} {lsf : Nat → Nat} {s : St} {t : SM} (q0_ : RCr w v m C bgf lsf s t) : ∀ k, k < C → hasE w v k → W4 (s 30) (ent w v k) (w.op k) (X1w w v m k) (X2w w v bgf lsf k) (X3w w v m k) := q0_.2.2.2.1
theorem RCr.tb {w : Cd} {v : Hv} {m : Md} {C : Nat} {bgf : Nat → Nat} {lsf : Nat → Nat} {s : St} {t : SM} (q0_ : RCr w v m C bgf lsf s t) : ∀ k, k < C → v.lo k = 0 → w.op k = 14 → ∀ i, i ≤ w.a k → W4 (s 30) (ent w v k + 1 + i) 12 (m.loc (w.fn k) + v.hi k - 1) (nI (tg w v (lsf (w.fn k)) (ups w.ins (w.pl (w.b k + i)) (w.ins k)))) (lf w v m (w.fn k) (ups w.ins (w.pl (w.b k + i)) (w.ins k))) := q0_.2.2.2.2
theorem RCr.rg {w : Cd} {v : Hv} {m : Md} {C : Nat} {bgf lsf : Nat → Nat} {s s' : St} {t t' : SM} (R : RCr w v m C bgf lsf s t) (hx : RXf s s') (hm : RMf t t') : RCr w v m C bgf lsf s' t' := by
  have a21 := hx 21 (by omega)
  have a30 := hx 30 (by omega)
  have a13 := hx 13 (by omega)
  refine ⟨fun f hf => ?_, R.e24, by rw [a21]; exact R.col, by rw [a30]; exact R.wd, by rw [a30]; exact R.tb⟩
  have Fs := R.fs f hf
  exact ⟨by rw [a13]; exact Fs.x2, by rw [hm.a 22 (by omega)]; exact Fs.m22, by rw [a13]; exact Fs.x3, by rw [hm.a 23 (by omega)]; exact Fs.m23, Fs.bl, Fs.lC, Fs.ib, Fs.ol, Fs.il, Fs.fn, Fs.nf⟩
theorem wd_0 {s : St} {n o a1 a3 : Nat} {a2 : Int32} (W : W4 (s 30) n o a1 a2 a3) (hn : n < 240) : f_RC_word s (nI n) 0 = some (nI o) := by
  rw [f_RC_word, show nI n * 4 = nI (n * 4) from pk_mul n 4, lt1, show nI (n * 4) + 0 = nI (n * 4 + 0) from nI_add _ 0, lt1, rGet_n (by omega) (by decide), W.c0, lt1]
theorem wd_1 {s : St} {n o a1 a3 : Nat} {a2 : Int32} (W : W4 (s 30) n o a1 a2 a3) (hn : n < 240) : f_RC_word s (nI n) 1 = some (nI a1) := by
  rw [f_RC_word, show nI n * 4 = nI (n * 4) from pk_mul n 4, lt1, show nI (n * 4) + 1 = nI (n * 4 + 1) from nI_add _ 1, lt1, rGet_n (by omega) (by decide), W.c1, lt1]
theorem wd_2 {s : St} {n o a1 a3 : Nat} {a2 : Int32} (W : W4 (s 30) n o a1 a2 a3) (hn : n < 240) : f_RC_word s (nI n) 2 = some a2 := by
  rw [f_RC_word, show nI n * 4 = nI (n * 4) from pk_mul n 4, lt1, show nI (n * 4) + 2 = nI (n * 4 + 2) from nI_add _ 2, lt1, rGet_n (by omega) (by decide), W.c2, lt1]
theorem wd_3 {s : St} {n o a1 a3 : Nat} {a2 : Int32} (W : W4 (s 30) n o a1 a2 a3) (hn : n < 240) : f_RC_word s (nI n) 3 = some (nI a3) := by
  rw [f_RC_word, show nI n * 4 = nI (n * 4) from pk_mul n 4, lt1, show nI (n * 4) + 3 = nI (n * 4 + 3) from nI_add _ 3, lt1, rGet_n (by omega) (by decide), W.c3, lt1]
theorem hasE_c {w : Cd} {v : Hv} {k : Nat} (h : hasE w v k) : 1 ≤ cst w v k := by
  unfold cst
  rcases h with ⟨h1, h2⟩ | ⟨h1, h2⟩
  · rw [if_neg h2, if_pos h1]; split <;> omega
  · rw [if_pos h1, if_pos h2]; exact Nat.le_refl _
theorem RCr.lt {w : Cd} {v : Hv} {m : Md} {C : Nat} {bgf lsf : Nat → Nat} {s : St} {t : SM} (R : RCr w v m C bgf lsf s t) {k : Nat} (hk : k < C) (h : hasE w v k) : ent w v k + cst w v k ≤ 240 ∧ ent w v k < 240 := by
  have h1 := ent_mono w v (k + 1) (C - (k + 1))
  rw [show k + 1 + (C - (k + 1)) = C by omega, ent_s] at h1
  have h2 := R.e24
  have h3 := hasE_c h
  omega
/-- the register engine and the other side in step -/
def SyR (w : Cd) (v : Hv) (m : Md) (C : Nat) (c : Nat) (F : Nat → Nat) (K : Nat → Nat) (L : Nat → Nat) (k : Nat) (s : St) (t : SM) : Prop :=
  (CF w v m C 7 44 46 (ent w v) c F K L s t) ∧
  (TP1 w v C 7 (ent w v) c F k s t) ∧
  (Win (28 * (c - 1)) (L c) (m.loc (F c) + ht w v (m.res (F c)) k) s t ∨ (w.op k = 11 ∧ w.ins k = 0 ∧ ∃ q : Nat, (m.res (F c) ≠ 0 → t.1 0 23 = nI (q + 1)) ∧ q < 399 ∧ (m.res (F c) ≠ 0 → s 36 (28 * (c - 1) + (m.loc (F c) + m.res (F c)) - 1) = t.1 35 q)))
theorem SyR.cf {w : Cd} {v : Hv} {m : Md} {C : Nat} {c : Nat} {F : Nat → Nat} {K : Nat → Nat} {L : Nat → Nat} {k : Nat} {s : St} {t : SM} (q0_ : SyR w v m C c F K L k s t) : CF w v m C 7 44 46 (ent w v) c F K L s t := q0_.1
theorem SyR.tp {w : Cd} {v : Hv} {m : Md} {C : Nat} {c : Nat} {F : Nat → Nat} {K : Nat → Nat} {L : Nat → Nat} {k : Nat} {s : St} {t : SM} (q0_ : SyR w v m C c F K L k s t) : TP1 w v C 7 (ent w v) c F k s t := q0_.2.1
theorem SyR.win {w : Cd} {v : Hv} {m : Md} {C : Nat} {c : Nat} {F : Nat → Nat} {K : Nat → Nat} {L : Nat → Nat} {k : Nat} {s : St} {t : SM} (q0_ : SyR w v m C c F K L k s t) : Win (28 * (c - 1)) (L c) (m.loc (F c) + ht w v (m.res (F c)) k) s t ∨ (w.op k = 11 ∧ w.ins k = 0 ∧ ∃ q : Nat, (m.res (F c) ≠ 0 → t.1 0 23 = nI (q + 1)) ∧ q < 399 ∧ (m.res (F c) ≠ 0 → s 36 (28 * (c - 1) + (m.loc (F c) + m.res (F c)) - 1) = t.1 35 q)) := q0_.2.2
section LVR
variable {w : Cd} {v : Hv} {m : Md} {C nP : Nat} {c : Nat} {F K L : Nat → Nat} {k : Nat} {s : St} {t : SM} {bgf lsf : Nat → Nat}
theorem lvR (S : Sta w v m C nP s t) (cf : CF w v m C 7 44 46 (ent w v) c F K L s t) {T q : Nat} (hT : T ≤ 224) (hT1 : m.res (F c) ≠ 0 → 1 ≤ T)
    (hsp : m.res (F c) ≠ 0 → t.1 0 23 = nI (q + 1)) (hq : q < 399) (hv : m.res (F c) ≠ 0 → s 36 (T - 1) = t.1 35 q) :
    ∃ s' t' r, f_Eng_close_R (nI T) (nI (m.res (F c))) s = some (r, s') ∧ f_M_leave t = some t' ∧ KP s t s' t' ∧ ((1 < c ∧ SyR w v m C (c - 1) F K L (K (c - 1)) s' t') ∨ Dn 7 s' t') := by
  have c1 := cf.c1; have c8 := cf.c8
  obtain ⟨f1, f2, f3⟩ := cf.f c c1 (Nat.le_refl _)
  have hr := (S.E.p4 _ f3).2.1
  have lc := cf.lc S
  obtain ⟨c', rfl⟩ : ∃ q, c = q + 1 := ⟨c - 1, by omega⟩
  by_cases h0 : c' = 0
  · subst h0
    have lv := leave_1 S.E cf.cc f1 f3 f2 hsp hq (x := if m.res (F (0 + 1)) = 0 then 0 else t.1 35 q) rfl
    have cx := clo1_R (s := s) (T := T) (rs := m.res (F (0 + 1))) cf.x0 hr hT hT1 (x := if m.res (F (0 + 1)) = 0 then 0 else t.1 35 q) (by
      by_cases z : m.res (F (0 + 1)) = 0
      · rw [if_pos z, if_pos z]
      · rw [if_neg z, if_neg z, hv z])
    rw [lv, cx]
    refine ⟨_, _, _, rfl, rfl, ?_, Or.inr ⟨by simp (disch := first | decide | omega) only [stI1, stI2, stp_eq, stp_row, stp_ne, stp_nj ], by simp (disch := first | decide | omega) only [stI1, stI2, stp_eq, stp_row, stp_ne, stp_nj ], by simp (disch := first | decide | omega) only [stI1, stI2, stp_eq, stp_row, stp_ne, stp_nj ]⟩⟩
    exact (((((((KP.refl s t).px (by decide)).px (by decide)).px (by decide)).p0 (by decide)).p0 (by decide)).p0 (by decide)).p0 (by decide)
  · have h0' : 0 < c' := by omega
    obtain ⟨n1, n2, n3⟩ := cf.nx c' h0' (by omega)
    have d28 := cf.d28 S h0' (show c' < c' + 1 by omega)
    have lc' : L (c' + 1) ≤ 28 * c' := cf.lc S
    have lv := leave_2 S.E cf.cc h0' (by omega) f1 f3 f2 (by omega) hsp hq (x := if m.res (F (c' + 1)) = 0 then 0 else t.1 35 q) rfl
    obtain ⟨s', g1, g2, g3, g4, g5, g6, g7⟩ := clo2_R (s := s) (T := T) (rs := m.res (F (c' + 1))) (c := c') (tp := 28 * (c' - 1) + (L (c' + 1) - L c')) cf.x0 h0' (by omega) hr hT hT1 n2 (by omega) (x := if m.res (F (c' + 1)) = 0 then 0 else t.1 35 q) (by
      by_cases z : m.res (F (c' + 1)) = 0
      · rw [if_pos z, if_pos z]
      · rw [if_neg z, if_neg z, hv z])
    rw [lv, g1]
    obtain ⟨k1, k2, k3, k4, k5, k6⟩ := cf.k c' h0' (by omega)
    refine ⟨_, _, _, rfl, rfl, ?_, Or.inl ⟨by omega, ?_⟩⟩
    · refine KP.trans (s1 := s') (t1 := t) (KP.xs fun a a1 a2 a3 a4 => g7 a a2 a3) ?_
      exact ((((KP.refl s' t).p0 (by decide)).p0 (by decide)).pm (by decide)).p0 (by decide)
    · show SyR w v m C c' F K L (K c') _ _
      refine ⟨?_, ⟨by simp (disch := first | decide | omega) only [stI1, stI2, stp_eq, stp_row, stp_ne, stp_nj ]; exact k1, k2, k3, by rw [g4]; exact n1, Or.inl k4⟩, Or.inl ?_⟩
      · refine cf.pop S rfl h0' (by simp (disch := first | decide | omega) only [stI1, stI2, stp_eq, stp_row, stp_ne, stp_nj ]) (by simp (disch := first | decide | omega) only [stI1, stI2, stp_eq, stp_row, stp_ne, stp_nj ]) (by simp (disch := first | decide | omega) only [stI1, stI2, stp_eq, stp_row, stp_ne, stp_nj ]) (by simp (disch := first | decide | omega) only [stI1, stI2, stp_eq, stp_row, stp_ne, stp_nj ]) (by simp (disch := first | decide | omega) only [stI1, stI2, stp_eq, stp_row, stp_ne, stp_nj ]) (by simp (disch := first | decide | omega) only [stI1, stI2, stp_eq, stp_row, stp_ne, stp_nj ]) g2 g3 g5 (g7 44 (by decide) (by decide)) (g7 46 (by decide) (by decide)) (fun j hj => ?_) (fun i hi => ?_)
        · rw [g6]
          by_cases z : m.res (F (c' + 1)) = 0
          · rw [if_pos z]
          · rw [if_neg z, pk_un (by omega)]
        · simp (disch := first | decide | omega) only [stI1, stI2, stp_eq, stp_row, stp_ne, stp_nj ]
      · exact win_pop S cf rfl h0' (x := if m.res (F (c' + 1)) = 0 then 0 else t.1 35 q) g6 (by simp (disch := first | decide | omega) only [stI1, stI2, stp_eq, stp_row, stp_ne, stp_nj ]) (by simp (disch := first | decide | omega) only [stI1, stI2, stp_eq, stp_row, stp_ne, stp_nj ])
/-- the end of a body -/
theorem syR_last (S : Sta w v m C nP s t) (R : RCr w v m C bgf lsf s t) (H : SyR w v m C c F K L k s t) (h11 : w.op k = 11) (h0 : w.ins k = 0) : ∃ s' t', f_RE_pass s = some (1, s') ∧ f_M_leave t = some t' ∧ KP s t s' t' ∧ ((1 < c ∧ SyR w v m C (c - 1) F K L (K (c - 1)) s' t') ∨ Dn 7 s' t') := by
  have hk := H.tp.kC
  have hE : hasE w v k := Or.inr ⟨h11, h0⟩
  have W := R.wd k hk hE
  have hl := (R.lt hk hE).2
  have c1 := H.cf.c1; have c8 := H.cf.c8
  obtain ⟨f1, f2, f3⟩ := H.cf.f c c1 (Nat.le_refl _)
  have hp := S.E.p4 _ f3
  have lc := H.cf.lc S
  have hht : ht w v (m.res (F c)) k = m.res (F c) := by
    unfold ht; rw [if_pos h11, h0, bs, gv, if_pos rfl, if_pos rfl]; omega
  have e1 : X1w w v m k = m.loc (F c) + m.res (F c) := by rw [X1w, if_pos h11, H.tp.fn]
  have e3 : X3w w v m k = m.res (F c) := by rw [X3w, if_neg (by omega), if_neg (by omega), if_pos (Or.inr h11), H.tp.fn]
  have wq : ∃ q : Nat, (m.res (F c) ≠ 0 → t.1 0 23 = nI (q + 1)) ∧ q < 399 ∧ (m.res (F c) ≠ 0 → s 36 (28 * (c - 1) + (m.loc (F c) + m.res (F c)) - 1) = t.1 35 q) := by
    rcases H.win with q | q
    · rw [hht] at q
      refine ⟨L c + (m.loc (F c) + m.res (F c)) - 1, fun z => by rw [q.sp]; exact congrArg nI (by omega), by omega, fun z => ?_⟩
      have := q.eq (m.loc (F c) + m.res (F c) - 1) (by omega)
      rw [show 28 * (c - 1) + (m.loc (F c) + m.res (F c)) - 1 = 28 * (c - 1) + (m.loc (F c) + m.res (F c) - 1) by omega, show L c + (m.loc (F c) + m.res (F c)) - 1 = L c + (m.loc (F c) + m.res (F c) - 1) by omega]
      exact this
    · exact q.2.2
  obtain ⟨q, q1, q2, q3⟩ := wq
  obtain ⟨s', t', r, g1, g2, g3, g4⟩ := lvR S H.cf (T := 28 * (c - 1) + (m.loc (F c) + m.res (F c))) (q := q) (by omega) (by omega) q1 q2 q3
  refine ⟨s', t', ?_, g2, g3, g4⟩
  rw [f_RE_pass, H.tp.nx, wd_0 W hl, bd1_some, if_neg (show ¬ nI (w.op k) = 5 by rw [h11]; decide), if_pos (show nI (w.op k) = 11 by rw [h11]; rfl), f_RE_leave, H.tp.nx, wd_1 W hl, bd1_some, H.cf.x1, nI_add, lt1, wd_3 W hl, bd1_some, e1, e3, g1, bd_some, bd1_some, bz1]
theorem syR_else (S : Sta w v m C nP s t) (R : RCr w v m C bgf lsf s t) (H : SyR w v m C c F K L k s t) (h5 : w.op k = 5) : ∃ e, k < e ∧ w.en (w.ins k - 1) = e + 1 ∧ f_RE_pass s = some (1, stp s 7 2 (nI (ent w v e))) ∧ SyR w v m C c F K L e (stp s 7 2 (nI (ent w v e))) (stI t 33 c (nI e)) := by
  have hk := H.tp.kC
  obtain ⟨e, B, e1, e2, e3, e4, e5, e6, e7, e8, e9⟩ := els_e S hk h5
  have hlo : v.lo k = 0 := by rcases H.tp.al with q | q; exact q; omega
  have hE : hasE w v k := Or.inl ⟨hlo, by omega⟩
  have W := R.wd k hk hE
  have hl := (R.lt hk hE).2
  have eb : w.en (w.ins k - 1) = e + 1 := by rw [e1, Nat.add_sub_cancel]; exact e2
  have x2 : X2w w v bgf lsf k = nI (ent w v e) := by rw [X2w, if_neg (by omega), if_neg (by omega), if_pos h5, eb, Nat.add_sub_cancel]
  refine ⟨e, e3, eb, ?_, ?_⟩
  · rw [f_RE_pass, H.tp.nx, wd_0 W hl, bd1_some, if_pos (show nI (w.op k) = 5 by rw [h5]; rfl), wd_2 W hl, bd1_some, x2, lt1, bz1]
  · have hht : ht w v (m.res (F c)) e = ht w v (m.res (F c)) k := by
      unfold ht
      rw [if_pos e5, if_neg (by omega), ((S.H.sr k hk).wt hlo).t5 (Or.inl h5), H.tp.fn, e6, e1]
    refine ⟨H.cf.cg S (by simp (disch := first | decide | omega) only [stI1, stI2, stp_eq, stp_row, stp_ne, stp_nj ]) (by simp (disch := first | decide | omega) only [stI1, stI2, stp_eq, stp_row, stp_ne, stp_nj ]) (by simp (disch := first | decide | omega) only [stI1, stI2, stp_eq, stp_row, stp_ne, stp_nj ]) (by simp (disch := first | decide | omega) only [stI1, stI2, stp_eq, stp_row, stp_ne, stp_nj ]) (by simp (disch := first | decide | omega) only [stI1, stI2, stp_eq, stp_row, stp_ne, stp_nj ]) (fun i hi => by simp (disch := first | decide | omega) only [stI1, stI2, stp_eq, stp_row, stp_ne, stp_nj ]) (by simp (disch := first | decide | omega) only [stI1, stI2, stp_eq, stp_row, stp_ne, stp_nj ]) (by simp (disch := first | decide | omega) only [stI1, stI2, stp_eq, stp_row, stp_ne, stp_nj ]) (by simp (disch := first | decide | omega) only [stI1, stI2, stp_eq, stp_row, stp_ne, stp_nj ]) (by simp (disch := first | decide | omega) only [stI1, stI2, stp_eq, stp_row, stp_ne, stp_nj ]) (by simp (disch := first | decide | omega) only [stI1, stI2, stp_eq, stp_row, stp_ne, stp_nj ]) (fun j hj => by simp (disch := first | decide | omega) only [stI1, stI2, stp_eq, stp_row, stp_ne, stp_nj ]) (fun j hj => by simp (disch := first | decide | omega) only [stI1, stI2, stp_eq, stp_row, stp_ne, stp_nj ]), ⟨by simp (disch := first | decide | omega) only [stI1, stI2, stp_eq, stp_row, stp_ne, stp_nj ], e4, by rw [e8]; exact H.tp.fn, by simp (disch := first | decide | omega) only [stI1, stI2, stp_eq, stp_row, stp_ne, stp_nj ], Or.inr ⟨e5, fun _ => ?_⟩⟩, Or.inl ?_⟩
    · rw [e6, Nat.add_sub_cancel]
      have := (S.H.sr k hk).ul (by omega) hlo
      rw [e1, Nat.add_sub_cancel] at this
      exact this
    · rcases H.win with q | q
      · rw [hht]; exact q.cut (Nat.le_refl _) (by simp (disch := first | decide | omega) only [stI1, stI2, stp_eq, stp_row, stp_ne, stp_nj ]) (by simp (disch := first | decide | omega) only [stI1, stI2, stp_eq, stp_row, stp_ne, stp_nj ]) (by simp (disch := first | decide | omega) only [stI1, stI2, stp_eq, stp_row, stp_ne, stp_nj ]; exact q.sp)
      · omega
theorem syR_end (S : Sta w v m C nP s t) (H : SyR w v m C c F K L k s t) (h11 : w.op k = 11) (h0 : w.ins k ≠ 0) : SyR w v m C c F K L (k + 1) s (stI t 33 c (nI (k + 1))) := by
  have hk := H.tp.kC
  obtain ⟨a1, a2, a3, a4⟩ := end_a S hk h11 h0 H.tp.al
  have ha := ht_a S a2 a1
  rw [a3, H.tp.fn] at ha
  have ee : ent w v (k + 1) = ent w v k := by rw [ent_s, cst, if_pos h11, if_neg h0]; rfl
  refine ⟨H.cf.cg S (by simp (disch := first | decide | omega) only [stI1, stI2, stp_eq, stp_row, stp_ne, stp_nj ]) (by simp (disch := first | decide | omega) only [stI1, stI2, stp_eq, stp_row, stp_ne, stp_nj ]) (by simp (disch := first | decide | omega) only [stI1, stI2, stp_eq, stp_row, stp_ne, stp_nj ]) (by simp (disch := first | decide | omega) only [stI1, stI2, stp_eq, stp_row, stp_ne, stp_nj ]) (by simp (disch := first | decide | omega) only [stI1, stI2, stp_eq, stp_row, stp_ne, stp_nj ]) (fun i hi => by simp (disch := first | decide | omega) only [stI1, stI2, stp_eq, stp_row, stp_ne, stp_nj ]) rfl rfl rfl rfl rfl (fun j hj => rfl) (fun j hj => by simp (disch := first | decide | omega) only [stI1, stI2, stp_eq, stp_row, stp_ne, stp_nj ]), ⟨by simp (disch := first | decide | omega) only [stI1, stI2, stp_eq, stp_row, stp_ne, stp_nj ], a2, by rw [a3]; exact H.tp.fn, by rw [ee]; exact H.tp.nx, Or.inl a1⟩, Or.inl ?_⟩
  rcases H.win with q | q
  · rw [ha, ← a4 (m.res (F c))]; exact q.cut (Nat.le_refl _) rfl (by simp (disch := first | decide | omega) only [stI1, stI2, stp_eq, stp_row, stp_ne, stp_nj ]) (by simp (disch := first | decide | omega) only [stI1, stI2, stp_eq, stp_row, stp_ne, stp_nj ]; exact q.sp)
  · exact absurd q.2.1 h0
theorem pr_stop {N n : Nat} : f_Eng_passAll_R_4 (N + 1) 0 (nI n) s = some s := by
  rw [f_Eng_passAll_R_4]
  simp only [f_Eng_passAll_R_41, if_true, ite_self]
theorem pr_1 {N n : Nat} {s' : St} (hn : n < 3840) (h3 : s 7 3 = 0) (hp : f_RE_pass s = some (1, s')) : f_Eng_passAll_R_4 (N + 1) 1 (nI n) s = f_Eng_passAll_R_4 N 1 (nI (n + 1)) s' := by
  rw [f_Eng_passAll_R_4, if_neg (show ¬ 3840 ≤ nI n from nI_ge (b := 3840) hn (by decide)), if_neg (by decide), if_pos h3, hp, bd_some, if_neg (by decide), f_Eng_passAll_R_34, lt1, nI_1]
theorem pr_0 {N n : Nat} (hn : n < 3840) (hp : s 7 3 = 0 → f_RE_pass s = some (0, s)) : f_Eng_passAll_R_4 (N + 2) 1 (nI n) s = some s := by
  rw [f_Eng_passAll_R_4, if_neg (show ¬ 3840 ≤ nI n from nI_ge (b := 3840) hn (by decide)), if_neg (by decide)]
  by_cases h3 : s 7 3 = 0
  · rw [if_pos h3, hp h3, bd_some, if_pos rfl, f_Eng_passAll_R_33, f_Eng_passAll_R_34, lt1, nI_1, pr_stop]
  · rw [if_neg h3, f_Eng_passAll_R_33, f_Eng_passAll_R_34, lt1, nI_1, pr_stop]
theorem setR : ∀ μ c k s t n N N', Sta w v m C nP s t → RCr w v m C bgf lsf s t → SyR w v m C c F K L k s t → 241 * (c - 1) + (C - k) ≤ μ → n + μ + 2 ≤ 3840 → μ + 2 ≤ N → μ + 2 ≤ N' →
    ∃ s' t', f_Eng_passAll_R_4 N 1 (nI n) s = some s' ∧ f_M_settle_2 N' 1 t = some t' ∧ KP s t s' t' ∧ ((∃ c' k', SyR w v m C c' F K L k' s' t' ∧ w.op k' ≠ 5 ∧ w.op k' ≠ 11) ∨ Dn 7 s' t') := by
  intro μ
  induction μ with
  | zero => intro c k s t n N N' S R H hm; have := H.tp.kC; omega
  | succ μ ih =>
    intro c k s t n N N' S R H hm hn hN hN'
    have hk := H.tp.kC
    have c1 := H.cf.c1; have c8 := H.cf.c8
    have hC := S.hC
    have f1 := (H.cf.f c c1 (Nat.le_refl _)).1
    obtain ⟨N', rfl⟩ : ∃ q, N' = q + 1 := ⟨N' - 1, by omega⟩
    by_cases h5 : w.op k = 5
    · obtain ⟨N, rfl⟩ : ∃ q, N = q + 1 := ⟨N - 1, by omega⟩
      obtain ⟨e, e1, e2, e3, e4⟩ := syR_else S R H h5
      have kp : KP s t (stp s 7 2 (nI (ent w v e))) (stI t 33 c (nI e)) := ((KP.refl s t).px (by decide)).pm (by decide)
      obtain ⟨s', t', g1, g2, g3, g4⟩ := ih c e _ _ (n + 1) N N' (S.rg kp.x kp.m) (R.rg kp.x kp.m) e4 (by omega) (by omega) (by omega) (by omega)
      refine ⟨s', t', ?_, ?_, kp.trans g3, g4⟩
      · rw [pr_1 (by omega) H.cf.x3 e3]; exact g1
      · rw [ms_else S H.cf.ru H.cf.cc (by omega) H.tp.pk hk h5 e2]; exact g2
    by_cases h11 : w.op k = 11
    · by_cases h0 : w.ins k = 0
      · obtain ⟨N, rfl⟩ : ∃ q, N = q + 1 := ⟨N - 1, by omega⟩
        obtain ⟨s1, t1, e1, e2, kp, e4⟩ := syR_last S R H h11 h0
        have em : f_M_settle_2 (N' + 1) 1 t = f_M_settle_2 N' 1 t1 := by rw [ms_leave S H.cf.ru H.cf.cc (by omega) H.tp.pk hk h11 h0 f1 H.tp.fn, e2, bd1_some]
        rw [pr_1 (by omega) H.cf.x3 e1, em]
        rcases e4 with ⟨hc, e4⟩ | e4
        · have := e4.tp.kC
          obtain ⟨s', t', g1, g2, g3, g4⟩ := ih (c - 1) (K (c - 1)) s1 t1 (n + 1) N N' (S.rg kp.x kp.m) (R.rg kp.x kp.m) e4 (by omega) (by omega) (by omega) (by omega)
          exact ⟨s', t', g1, g2, kp.trans g3, g4⟩
        · obtain ⟨N, rfl⟩ : ∃ q, N = q + 2 := ⟨N - 2, by omega⟩
          obtain ⟨N', rfl⟩ : ∃ q, N' = q + 1 := ⟨N' - 1, by omega⟩
          exact ⟨s1, t1, pr_0 (by omega) (fun z => by rw [e4.1] at z; exact absurd z (by decide)), ms_0 e4.2.1, kp, Or.inr e4⟩
      · have e4 := syR_end S H h11 h0
        have kp : KP s t s (stI t 33 c (nI (k + 1))) := (KP.refl s t).pm (by decide)
        obtain ⟨s', t', g1, g2, g3, g4⟩ := ih c (k + 1) _ _ n N N' (S.rg kp.x kp.m) (R.rg kp.x kp.m) e4 (by omega) (by omega) (by omega) (by omega)
        refine ⟨s', t', g1, ?_, kp.trans g3, g4⟩
        rw [ms_end S H.cf.ru H.cf.cc (by omega) H.tp.pk hk h11 h0 f1 H.tp.fn]; exact g2
    · have hlo : v.lo k = 0 := by rcases H.tp.al with q | q; exact q; omega
      have hE : hasE w v k := Or.inl ⟨hlo, h11⟩
      have W := R.wd k hk hE
      have hl := (R.lt hk hE).2
      have ho := kno_lt (S.kn hk).1
      have hps : f_RE_pass s = some (0, s) := by
        rw [f_RE_pass, H.tp.nx, wd_0 W hl, bd1_some, if_neg (show ¬ nI (w.op k) = 5 from fun q => h5 ((nI_eq (b := 5) (by omega) (by decide)).mp q)), if_neg (show ¬ nI (w.op k) = 11 from fun q => h11 ((nI_eq (b := 11) (by omega) (by decide)).mp q)), bz0]
      obtain ⟨N, rfl⟩ : ∃ q, N = q + 2 := ⟨N - 2, by omega⟩
      obtain ⟨N', rfl⟩ : ∃ q, N' = q + 1 := ⟨N' - 1, by omega⟩
      exact ⟨s, t, pr_0 (by omega) (fun _ => hps), ms_stop S H.cf.ru H.cf.cc (by omega) H.tp.pk hk h5 h11, KP.refl _ _, Or.inl ⟨c, k, H, h5, h11⟩⟩
end LVR
