-- running: the stack engine and the other side in step
def KP (s : St) (t : SM) (s' : St) (t' : SM) : Prop :=
  (RXf s s') ∧
  (RMf t t') ∧
  (s' 34 = s 34) ∧
  (s' 38 = s 38) ∧
  (s' 5 = s 5) ∧
  (t'.1 29 = t.1 29) ∧
  (t'.1 30 = t.1 30) ∧
  (t'.1 0 18 = t.1 0 18)
theorem KP.x {s : St} {t : SM} {s' : St} {t' : SM} (q0_ : KP s t s' t') : RXf s s' := q0_.1
theorem KP.m {s : St} {t : SM} {s' : St} {t' : SM} (q0_ : KP s t s' t') : RMf t t' := q0_.2.1
theorem KP.x34 {s : St} {t : SM} {s' : St} {t' : SM} (q0_ : KP s t s' t') : s' 34 = s 34 := q0_.2.2.1
theorem KP.x38 {s : St} {t : SM} {s' : St} {t' : SM} (q0_ : KP s t s' t') : s' 38 = s 38 := q0_.2.2.2.1
theorem KP.x5 {s : St} {t : SM} {s' : St} {t' : SM} (q0_ : KP s t s' t') : s' 5 = s 5 := q0_.2.2.2.2.1
theorem KP.m29 {s : St} {t : SM} {s' : St} {t' : SM} (q0_ : KP s t s' t') : t'.1 29 = t.1 29 := q0_.2.2.2.2.2.1
theorem KP.m30 {s : St} {t : SM} {s' : St} {t' : SM} (q0_ : KP s t s' t') : t'.1 30 = t.1 30 := q0_.2.2.2.2.2.2.1
theorem KP.m18 {s : St} {t : SM} {s' : St} {t' : SM} (q0_ : KP s t s' t') : t'.1 0 18 = t.1 0 18 := q0_.2.2.2.2.2.2.2
theorem KP.refl (s : St) (t : SM) : KP s t s t := ⟨RXf.refl _, RMf.refl _, rfl, rfl, rfl, rfl, rfl, rfl⟩
theorem KP.trans {s s1 s2 : St} {t t1 t2 : SM} (h : KP s t s1 t1) (h2 : KP s1 t1 s2 t2) : KP s t s2 t2 := ⟨h.x.trans h2.x, h.m.trans h2.m, h2.x34.trans h.x34, h2.x38.trans h.x38, h2.x5.trans h.x5, h2.m29.trans h.m29, h2.m30.trans h.m30, h2.m18.trans h.m18⟩
theorem KP.px {s s1 : St} {t t1 : SM} {a j : Nat} {x : Int32} (ha : ¬ (a ≤ 5 ∨ (8 ≤ a ∧ a ≤ 32) ∨ a = 34 ∨ a = 38)) (h : KP s t s1 t1) : KP s t (stp s1 a j x) t1 :=
  ⟨h.x.p (by omega), h.m, by rw [stp_ne _ _ _ (by omega)]; exact h.x34, by rw [stp_ne _ _ _ (by omega)]; exact h.x38, by rw [stp_ne _ _ _ (by omega)]; exact h.x5, h.m29, h.m30, h.m18⟩
theorem KP.pm {s s1 : St} {t t1 : SM} {a j : Nat} {x : Int32} (ha : 31 < a ∧ a ≠ 36) (h : KP s t s1 t1) : KP s t s1 (stI t1 a j x) :=
  ⟨h.x, h.m.p (by omega), h.x34, h.x38, h.x5, by rw [stI1, stp_ne _ _ _ (by omega)]; exact h.m29, by rw [stI1, stp_ne _ _ _ (by omega)]; exact h.m30, by rw [stI1, stp_ne _ _ _ (by omega)]; exact h.m18⟩
theorem KP.p0 {s s1 : St} {t t1 : SM} {j : Nat} {x : Int32} (hj : 19 < j ∧ j < 24) (h : KP s t s1 t1) : KP s t s1 (stI t1 0 j x) :=
  ⟨h.x, h.m.p0 (by omega), h.x34, h.x38, h.x5, by rw [stI1, stp_ne _ _ _ (by omega)]; exact h.m29, by rw [stI1, stp_ne _ _ _ (by omega)]; exact h.m30, by rw [stI1, stp_nj _ _ _ (by omega)]; exact h.m18⟩
theorem KP.xs {s s' : St} {t : SM} (h : ∀ a, a ≠ 6 → a ≠ 7 → a ≠ 36 → a < 39 → s' a = s a) : KP s t s' t :=
  ⟨fun a q => h a (by omega) (by omega) (by omega) (by omega), RMf.refl _, h 34 (by decide) (by decide) (by decide) (by decide), h 38 (by decide) (by decide) (by decide) (by decide), h 5 (by decide) (by decide) (by decide) (by decide), rfl, rfl, rfl⟩
theorem KP.ms {s : St} {t t' : SM} (l : t'.2 = t.2) (h : ∀ a, a ≠ 0 → a ≠ 32 → a ≠ 33 → a ≠ 34 → a ≠ 35 → t'.1 a = t.1 a) (z : ∀ j, j < 20 ∨ 23 < j → t'.1 0 j = t.1 0 j) : KP s t s t' :=
  ⟨RXf.refl _, ⟨l, fun a q => h a (by omega) (by omega) (by omega) (by omega) (by omega), fun j q => z j (by omega)⟩, rfl, rfl, rfl, h 29 (by decide) (by decide) (by decide) (by decide) (by decide), h 30 (by decide) (by decide) (by decide) (by decide) (by decide), z 18 (by decide)⟩
theorem KP.wj {la c : Nat} {s : St} {t t' : SM} (h : WJ la c t t') : KP s t s t' := ⟨RXf.refl _, h.w.rm, rfl, rfl, rfl, h.a, h.b, h.p⟩
theorem DR.kp {nG me mx p : Nat} {s s' : St} {t t' : SM} (D : DR nG me mx s t p) (h : KP s t s' t') : DR nG me mx s' t' p := D.cg h.x34 h.x38 h.x5 h.m29 h.m30 h.m18 (h.m.z 10 (by decide)) h.m.l
def LB (w : Cd) (v : Hv) (m : Md) (i f k : Nat) (s : St) : Prop := ∀ j B, j < w.dp k → ups w.ins j (w.ins k) = B + 1 → s 48 (((i - 1) * 10 + (w.dp k - 1 - j)) * 2 + 0) = nI B ∧ s 48 (((i - 1) * 10 + (w.dp k - 1 - j)) * 2 + 1) = nI (28 * (i - 1) + m.loc f + v.bb B)
theorem LB.cg {w : Cd} {v : Hv} {m : Md} {i f k k' : Nat} {s s' : St} (h : LB w v m i f k s) (h48 : s' 48 = s 48) (hi : w.ins k' = w.ins k) (hd : w.dp k' = w.dp k) : LB w v m i f k' s' := by
  intro j B h1 h2
  rw [hd] at h1; rw [hi] at h2; rw [h48, hd]
  exact h j B h1 h2
theorem LB.cgs {w : Cd} {v : Hv} {m : Md} {i f k : Nat} {s s' : St} (h : LB w v m i f k s) (hd : w.dp k ≤ 10) (h48 : ∀ j, j < (i - 1 + 1) * 20 → s' 48 j = s 48 j) : LB w v m i f k s' := by
  intro j B h1 h2
  rw [h48 _ (by omega), h48 _ (by omega)]
  exact h j B h1 h2
def SyS (w : Cd) (v : Hv) (m : Md) (C : Nat) (c : Nat) (F : Nat → Nat) (K : Nat → Nat) (L : Nat → Nat) (k : Nat) (s : St) (t : SM) : Prop :=
  (CF w v m C 6 40 42 id c F K L s t) ∧
  (TP1 w v C 6 id c F k s t) ∧
  (Win (28 * (c - 1)) (L c) (m.loc (F c) + ht w v (m.res (F c)) k) s t) ∧
  (∀ i, 1 ≤ i → i ≤ c → s 50 (i - 1) = nI (F i)) ∧
  (∀ i, 1 ≤ i → i < c → s 52 (i - 1) = nI (w.dp (K i))) ∧
  (∀ i, 1 ≤ i → i < c → LB w v m i (F i) (K i) s) ∧
  (s 6 5 = nI (w.dp k)) ∧
  (s 6 6 = nI (28 * (c - 1) + (m.loc (F c) + ht w v (m.res (F c)) k))) ∧
  (LB w v m c (F c) k s)
theorem SyS.cf {w : Cd} {v : Hv} {m : Md} {C : Nat} {c : Nat} {F : Nat → Nat} {K : Nat → Nat} {L : Nat → Nat} {k : Nat} {s : St} {t : SM} (q0_ : SyS w v m C c F K L k s t) : CF w v m C 6 40 42 id c F K L s t := q0_.1
theorem SyS.tp {w : Cd} {v : Hv} {m : Md} {C : Nat} {c : Nat} {F : Nat → Nat} {K : Nat → Nat} {L : Nat → Nat} {k : Nat} {s : St} {t : SM} (q0_ : SyS w v m C c F K L k s t) : TP1 w v C 6 id c F k s t := q0_.2.1
theorem SyS.win {w : Cd} {v : Hv} {m : Md} {C : Nat} {c : Nat} {F : Nat → Nat} {K : Nat → Nat} {L : Nat → Nat} {k : Nat} {s : St} {t : SM} (q0_ : SyS w v m C c F K L k s t) : Win (28 * (c - 1)) (L c) (m.loc (F c) + ht w v (m.res (F c)) k) s t := q0_.2.2.1
theorem SyS.fu {w : Cd} {v : Hv} {m : Md} {C : Nat} {c : Nat} {F : Nat → Nat} {K : Nat → Nat} {L : Nat → Nat} {k : Nat} {s : St} {t : SM} (q0_ : SyS w v m C c F K L k s t) : ∀ i, 1 ≤ i → i ≤ c → s 50 (i - 1) = nI (F i) := q0_.2.2.2.1
theorem SyS.dp {w : Cd} {v : Hv} {m : Md} {C : Nat} {c : Nat} {F : Nat → Nat} {K : Nat → Nat} {L : Nat → Nat} {k : Nat} {s : St} {t : SM} (q0_ : SyS w v m C c F K L k s t) : ∀ i, 1 ≤ i → i < c → s 52 (i - 1) = nI (w.dp (K i)) := q0_.2.2.2.2.1
theorem SyS.lb {w : Cd} {v : Hv} {m : Md} {C : Nat} {c : Nat} {F : Nat → Nat} {K : Nat → Nat} {L : Nat → Nat} {k : Nat} {s : St} {t : SM} (q0_ : SyS w v m C c F K L k s t) : ∀ i, 1 ≤ i → i < c → LB w v m i (F i) (K i) s := q0_.2.2.2.2.2.1
theorem SyS.d5 {w : Cd} {v : Hv} {m : Md} {C : Nat} {c : Nat} {F : Nat → Nat} {K : Nat → Nat} {L : Nat → Nat} {k : Nat} {s : St} {t : SM} (q0_ : SyS w v m C c F K L k s t) : s 6 5 = nI (w.dp k) := q0_.2.2.2.2.2.2.1
theorem SyS.t6 {w : Cd} {v : Hv} {m : Md} {C : Nat} {c : Nat} {F : Nat → Nat} {K : Nat → Nat} {L : Nat → Nat} {k : Nat} {s : St} {t : SM} (q0_ : SyS w v m C c F K L k s t) : s 6 6 = nI (28 * (c - 1) + (m.loc (F c) + ht w v (m.res (F c)) k)) := q0_.2.2.2.2.2.2.2.1
theorem SyS.lk {w : Cd} {v : Hv} {m : Md} {C : Nat} {c : Nat} {F : Nat → Nat} {K : Nat → Nat} {L : Nat → Nat} {k : Nat} {s : St} {t : SM} (q0_ : SyS w v m C c F K L k s t) : LB w v m c (F c) k s := q0_.2.2.2.2.2.2.2.2
def Dn (E : Nat) (s : St) (t : SM) : Prop := s E 3 = 1 ∧ t.1 0 20 = 0 ∧ s E 4 = t.1 0 21
section LVS
variable {w : Cd} {v : Hv} {m : Md} {C nP : Nat} {c : Nat} {F K L : Nat → Nat} {k : Nat} {s : St} {t : SM}
/-- the callers' frame after a call has ended: both sides -/
theorem CF.pop {E NX TP c' : Nat} {pos : Nat → Nat} {s' : St} {t' : SM} (S : Sta w v m C nP s t) (H : CF w v m C E NX TP pos c F K L s t) (hc : c = c' + 1) (h0 : 0 < c') (a22 : t'.1 0 22 = nI c') (a20 : t'.1 0 20 = t.1 0 20) (a21 : t'.1 0 21 = t.1 0 21) (a32 : t'.1 32 = t.1 32) (a34 : t'.1 34 = t.1 34) (a33 : t'.1 33 = t.1 33)
    (b0 : s' E 0 = nI c') (b1 : s' E 1 = nI (28 * (c' - 1))) (b3 : s' E 3 = s E 3) (bn : s' NX = s NX) (bt : s' TP = s TP) (b36 : ∀ j, j < 28 * (c' - 1) → s' 36 j = s 36 j) (a35 : ∀ i, i < L c' → t'.1 35 i = t.1 35 i) : CF w v m C E NX TP pos c' F K L s' t' := by
  have h8 := H.c8
  refine ⟨a22, h0, by omega, a20.trans H.ru, a21.trans H.rz, fun i h1 h2 => by rw [a32, a34]; exact H.f i h1 (by omega), fun i h1 h2 => by rw [a33]; exact H.k i h1 (by omega), H.l1, b0, b1, b3.trans H.x3, fun i h1 h2 => ?_⟩
  rw [bn, bt]
  obtain ⟨g1, g2, g3⟩ := H.nx i h1 (by omega)
  refine ⟨g1, g2, fun x hx => ?_⟩
  have d := H.d28 S h1 (by omega)
  have mo := H.mono S (i := i + 1) (by omega) (c' - (i + 1)) (by omega)
  rw [show i + 1 + (c' - (i + 1)) = c' by omega] at mo
  have : 28 * (i - 1) + 28 ≤ 28 * (c' - 1) := by omega
  rw [b36 _ (by omega), a35 _ (by omega)]
  exact g3 x hx
theorem win_pop {E NX TP c' : Nat} {pos : Nat → Nat} {s' : St} {t' : SM} {x : Int32} (S : Sta w v m C nP s t) (H : CF w v m C E NX TP pos c F K L s t) (hc : c = c' + 1) (h0 : 0 < c') (hs : s' 36 = if m.res (F c) = 0 then s 36 else upd (s 36) (28 * (c' - 1) + (L c - L c')) x) (ht' : t'.1 35 = upd (t.1 35) (L c) x) (h23 : t'.1 0 23 = nI (L c + m.res (F c))) :
    Win (28 * (c' - 1)) (L c') (m.loc (F c') + ht w v (m.res (F c')) (K c')) s' t' := by
  subst hc
  obtain ⟨k1, k2, k3, k4, k5, k6⟩ := H.k c' h0 (by omega)
  obtain ⟨n1, n2, n3⟩ := H.nx c' h0 (by omega)
  have hm := (H.d28 S h0 (show c' < c' + 1 by omega)).1
  have ha := ht_a S k2 k4
  rw [k3] at ha
  have hr := (S.E.p4 _ (H.f (c' + 1) (by omega) (by omega)).2.2).2.1
  rw [ha]
  refine ⟨by rw [h23]; exact congrArg nI (by omega), fun y hy => ?_⟩
  rw [hs, ht']
  by_cases q : m.res (F (c' + 1)) = 0
  · rw [if_pos q, pk_un (by omega)]; exact n3 y (by omega)
  · rw [if_neg q]
    by_cases e : y = L (c' + 1) - L c'
    · rw [show 28 * (c' - 1) + y = 28 * (c' - 1) + (L (c' + 1) - L c') by omega, show L c' + y = L (c' + 1) by omega, pk_us, pk_us]
    · rw [pk_un (by omega), pk_un (by omega)]; exact n3 y (by omega)
theorem lvS (S : Sta w v m C nP s t) (cf : CF w v m C 6 40 42 id c F K L s t) (fu : ∀ i, 1 ≤ i → i ≤ c → s 50 (i - 1) = nI (F i)) (dp : ∀ i, 1 ≤ i → i < c → s 52 (i - 1) = nI (w.dp (K i))) (lb : ∀ i, 1 ≤ i → i < c → LB w v m i (F i) (K i) s) {T q : Nat} (h6 : s 6 6 = nI T) (hT : T ≤ 224) (hT1 : m.res (F c) ≠ 0 → 1 ≤ T)
    (hsp : m.res (F c) ≠ 0 → t.1 0 23 = nI (q + 1)) (hq : q < 399) (hv : m.res (F c) ≠ 0 → s 36 (T - 1) = t.1 35 q) :
    ∃ s' t', f_SE_leave s = some s' ∧ f_M_leave t = some t' ∧ KP s t s' t' ∧ ((1 < c ∧ SyS w v m C (c - 1) F K L (K (c - 1)) s' t') ∨ Dn 6 s' t') := by
  have c1 := cf.c1; have c8 := cf.c8
  obtain ⟨f1, f2, f3⟩ := cf.f c c1 (Nat.le_refl _)
  have hr := (S.E.p4 _ f3).2.1
  have hF8 := S.E.nF8
  have lc := cf.lc S
  have rX := S.E.rX _ f3
  obtain ⟨c', rfl⟩ : ∃ q, c = q + 1 := ⟨c - 1, by omega⟩
  have e0 : f_SE_leave s = bd (f_Eng_close_S (nI T) (nI (m.res (F (c' + 1)))) s) fun r5 s4 => some (stp (stp s4 6 6 r5) 6 5 (rGet 8 (stp s4 6 6 r5 52) (stp s4 6 6 r5 6 0 - 1))) := by
    rw [f_SE_leave, cf.x0, nI_pred, lt1, rGet_n (show c' < 8 by omega) (by decide), show s 50 c' = nI (F (c' + 1)) from fu (c' + 1) (by omega) (by omega), lt1, rX, bd1_some, h6]
    rfl
  rw [e0]
  by_cases h0 : c' = 0
  · subst h0
    have lv := leave_1 S.E cf.cc f1 f3 f2 hsp hq (x := if m.res (F (0 + 1)) = 0 then 0 else t.1 35 q) rfl
    have cx := clo1_S (s := s) (T := T) (rs := m.res (F (0 + 1))) cf.x0 hr hT hT1 (x := if m.res (F (0 + 1)) = 0 then 0 else t.1 35 q) (by
      by_cases z : m.res (F (0 + 1)) = 0
      · rw [if_pos z, if_pos z]
      · rw [if_neg z, if_neg z, hv z])
    rw [lv, cx, bd_some]
    refine ⟨_, _, rfl, rfl, ?_, Or.inr ⟨by simp (disch := first | decide | omega) only [stI1, stI2, stp_eq, stp_row, stp_ne, stp_nj ], by simp (disch := first | decide | omega) only [stI1, stI2, stp_eq, stp_row, stp_ne, stp_nj ], by simp (disch := first | decide | omega) only [stI1, stI2, stp_eq, stp_row, stp_ne, stp_nj ]⟩⟩
    exact (((((((((KP.refl s t).px (by decide)).px (by decide)).px (by decide)).px (by decide)).px (by decide)).p0 (by decide)).p0 (by decide)).p0 (by decide)).p0 (by decide)
  · have h0' : 0 < c' := by omega
    obtain ⟨n1, n2, n3⟩ := cf.nx c' h0' (by omega)
    have d28 := cf.d28 S h0' (show c' < c' + 1 by omega)
    have lc' : L (c' + 1) ≤ 28 * c' := cf.lc S
    have lv := leave_2 S.E cf.cc h0' (by omega) f1 f3 f2 (by omega) hsp hq (x := if m.res (F (c' + 1)) = 0 then 0 else t.1 35 q) rfl
    obtain ⟨s', g1, g2, g3, g4, g5, g6, g7⟩ := clo2_S (s := s) (T := T) (rs := m.res (F (c' + 1))) (c := c') (tp := 28 * (c' - 1) + (L (c' + 1) - L c')) cf.x0 h0' (by omega) hr hT hT1 n2 (by omega) (x := if m.res (F (c' + 1)) = 0 then 0 else t.1 35 q) (by
      by_cases z : m.res (F (c' + 1)) = 0
      · rw [if_pos z, if_pos z]
      · rw [if_neg z, if_neg z, hv z])
    rw [lv, g1, bd_some]
    obtain ⟨k1, k2, k3, k4, k5, k6⟩ := cf.k c' h0' (by omega)
    have e52 : rGet 8 (stp s' 6 6 (nI (28 * (c' - 1) + (L (c' + 1) - L c') + m.res (F (c' + 1)))) 52) (stp s' 6 6 (nI (28 * (c' - 1) + (L (c' + 1) - L c') + m.res (F (c' + 1)))) 6 0 - 1) = nI (w.dp (K c')) := by
      rw [stp_nj _ _ _ (by decide), g2, nsub1 h0', rGet_n (by omega) (by decide), stp_ne _ _ _ (by decide), g7 52 (by decide) (by decide)]
      exact dp c' h0' (by omega)
    rw [e52]
    have ha := ht_a S k2 k4
    rw [k3] at ha
    refine ⟨_, _, rfl, rfl, ?_, Or.inl ⟨by omega, ?_⟩⟩
    · refine KP.trans (s1 := s') (t1 := t) (KP.xs fun a a1 a2 a3 a4 => g7 a a1 a3) ?_
      exact (((((((KP.refl s' t).px (by decide)).px (by decide)).p0 (by decide)).p0 (by decide)).pm (by decide)).p0 (by decide))
    · show SyS w v m C c' F K L (K c') _ _
      refine ⟨?_, ⟨by simp (disch := first | decide | omega) only [stI1, stI2, stp_eq, stp_row, stp_ne, stp_nj ]; exact k1, k2, k3, by simp (disch := first | decide | omega) only [stI1, stI2, stp_eq, stp_row, stp_ne, stp_nj ]; rw [g4]; exact n1, Or.inl k4⟩, ?_, fun i h1 h2 => by simp (disch := first | decide | omega) only [stI1, stI2, stp_eq, stp_row, stp_ne, stp_nj ]; rw [g7 50 (by decide) (by decide)]; exact fu i h1 (by omega), fun i h1 h2 => by simp (disch := first | decide | omega) only [stI1, stI2, stp_eq, stp_row, stp_ne, stp_nj ]; rw [g7 52 (by decide) (by decide)]; exact dp i h1 (by omega), fun i h1 h2 => (lb i h1 (by omega)).cg (by simp (disch := first | decide | omega) only [stI1, stI2, stp_eq, stp_row, stp_ne, stp_nj ]; exact g7 48 (by decide) (by decide)) rfl rfl, by simp (disch := first | decide | omega) only [stI1, stI2, stp_eq, stp_row, stp_ne, stp_nj ], ?_, (lb c' h0' (by omega)).cg (by simp (disch := first | decide | omega) only [stI1, stI2, stp_eq, stp_row, stp_ne, stp_nj ]; exact g7 48 (by decide) (by decide)) rfl rfl⟩
      · refine cf.pop S rfl h0' (by simp (disch := first | decide | omega) only [stI1, stI2, stp_eq, stp_row, stp_ne, stp_nj ]) (by simp (disch := first | decide | omega) only [stI1, stI2, stp_eq, stp_row, stp_ne, stp_nj ]) (by simp (disch := first | decide | omega) only [stI1, stI2, stp_eq, stp_row, stp_ne, stp_nj ]) (by simp (disch := first | decide | omega) only [stI1, stI2, stp_eq, stp_row, stp_ne, stp_nj ]) (by simp (disch := first | decide | omega) only [stI1, stI2, stp_eq, stp_row, stp_ne, stp_nj ]) (by simp (disch := first | decide | omega) only [stI1, stI2, stp_eq, stp_row, stp_ne, stp_nj ]) (by simp (disch := first | decide | omega) only [stI1, stI2, stp_eq, stp_row, stp_ne, stp_nj ]; exact g2) (by simp (disch := first | decide | omega) only [stI1, stI2, stp_eq, stp_row, stp_ne, stp_nj ]; exact g3) (by simp (disch := first | decide | omega) only [stI1, stI2, stp_eq, stp_row, stp_ne, stp_nj ]; exact g5) (by simp (disch := first | decide | omega) only [stI1, stI2, stp_eq, stp_row, stp_ne, stp_nj ]; exact g7 40 (by decide) (by decide)) (by simp (disch := first | decide | omega) only [stI1, stI2, stp_eq, stp_row, stp_ne, stp_nj ]; exact g7 42 (by decide) (by decide)) (fun j hj => ?_) (fun i hi => ?_)
        · simp (disch := first | decide | omega) only [stI1, stI2, stp_eq, stp_row, stp_ne, stp_nj ]
          rw [g6]
          by_cases z : m.res (F (c' + 1)) = 0
          · rw [if_pos z]
          · rw [if_neg z, pk_un (by omega)]
        · simp (disch := first | decide | omega) only [stI1, stI2, stp_eq, stp_row, stp_ne, stp_nj ]
      · exact win_pop S cf rfl h0' (x := if m.res (F (c' + 1)) = 0 then 0 else t.1 35 q) (by simp (disch := first | decide | omega) only [stI1, stI2, stp_eq, stp_row, stp_ne, stp_nj ]; exact g6) (by simp (disch := first | decide | omega) only [stI1, stI2, stp_eq, stp_row, stp_ne, stp_nj ]) (by simp (disch := first | decide | omega) only [stI1, stI2, stp_eq, stp_row, stp_ne, stp_nj ])
      · simp (disch := first | decide | omega) only [stI1, stI2, stp_eq, stp_row, stp_ne, stp_nj ]; rw [ha]; exact congrArg nI (by omega)
end LVS
