-- running: what does not change while it runs
def FnS (w : Cd) (C f : Nat) (s : St) (t : SM) (bg ls : Nat) : Prop :=
  (s 13 (f * 4 + 2) = nI bg) ∧
  (t.1 22 f = nI bg) ∧
  (s 13 (f * 4 + 3) = nI ls) ∧
  (t.1 23 f = nI ls) ∧
  (bg ≤ ls) ∧
  (ls < C) ∧
  (w.ins bg = 0) ∧
  (w.op ls = 11) ∧
  (w.ins ls = 0) ∧
  (∀ k, bg ≤ k → k ≤ ls → w.fn k = f) ∧
  (∀ k, k < C → w.fn k = f → bg ≤ k ∧ k ≤ ls)
theorem FnS.x2 {w : Cd} {C f : Nat} {s : St} {t : SM} {bg ls : Nat} (q0_ : FnS w C f s t bg ls) : s 13 (f * 4 + 2) = nI bg := q0_.1
theorem FnS.m22 {w : Cd} {C f : Nat} {s : St} {t : SM} {bg ls : Nat} (q0_ : FnS w C f s t bg ls) : t.1 22 f = nI bg := q0_.2.1
theorem FnS.x3 {w : Cd} {C f : Nat} {s : St} {t : SM} {bg ls : Nat} (q0_ : FnS w C f s t bg ls) : s 13 (f * 4 + 3) = nI ls := q0_.2.2.1
theorem FnS.m23 {w : Cd} {C f : Nat} {s : St} {t : SM} {bg ls : Nat} (q0_ : FnS w C f s t bg ls) : t.1 23 f = nI ls := q0_.2.2.2.1
theorem FnS.bl {w : Cd} {C f : Nat} {s : St} {t : SM} {bg ls : Nat} (q0_ : FnS w C f s t bg ls) : bg ≤ ls := q0_.2.2.2.2.1
theorem FnS.lC {w : Cd} {C f : Nat} {s : St} {t : SM} {bg ls : Nat} (q0_ : FnS w C f s t bg ls) : ls < C := q0_.2.2.2.2.2.1
theorem FnS.ib {w : Cd} {C f : Nat} {s : St} {t : SM} {bg ls : Nat} (q0_ : FnS w C f s t bg ls) : w.ins bg = 0 := q0_.2.2.2.2.2.2.1
theorem FnS.ol {w : Cd} {C f : Nat} {s : St} {t : SM} {bg ls : Nat} (q0_ : FnS w C f s t bg ls) : w.op ls = 11 := q0_.2.2.2.2.2.2.2.1
theorem FnS.il {w : Cd} {C f : Nat} {s : St} {t : SM} {bg ls : Nat} (q0_ : FnS w C f s t bg ls) : w.ins ls = 0 := q0_.2.2.2.2.2.2.2.2.1
theorem FnS.fn {w : Cd} {C f : Nat} {s : St} {t : SM} {bg ls : Nat} (q0_ : FnS w C f s t bg ls) : ∀ k, bg ≤ k → k ≤ ls → w.fn k = f := q0_.2.2.2.2.2.2.2.2.2.1
theorem FnS.nf {w : Cd} {C f : Nat} {s : St} {t : SM} {bg ls : Nat} (q0_ : FnS w C f s t bg ls) : ∀ k, k < C → w.fn k = f → bg ≤ k ∧ k ≤ ls := q0_.2.2.2.2.2.2.2.2.2.2
def Sta (w : Cd) (v : Hv) (m : Md) (C nP : Nat) (s : St) (t : SM) : Prop :=
  (WF w C) ∧
  (C ≤ 240) ∧
  (w.ins C = 0) ∧
  (Env m s t) ∧
  (HR w v m C s t) ∧
  (∀ k, k < C → RwX w k (s 21)) ∧
  (∀ k, k < C → RwM w k t) ∧
  (nP ≤ 240) ∧
  (∀ j, j < nP → w.pl j < 2 ^ 32 ∧ s 23 (j * 1 + 0) = nI (w.pl j) ∧ t.2 25 j = lN (w.pl j)) ∧
  (∀ k, k < C → w.op k = 14 → w.b k + w.a k < nP) ∧
  (∀ f, f < m.nF → ∃ bg ls, FnS w C f s t bg ls ∧ v.hi bg = 0 ∧ v.lo bg = 0) ∧
  (∀ k, k < C → w.fn k < m.nF)
theorem Sta.W {w : Cd} {v : Hv} {m : Md} {C nP : Nat} {s : St} {t : SM} (q0_ : Sta w v m C nP s t) : WF w C := q0_.1
theorem Sta.hC {w : Cd} {v : Hv} {m : Md} {C nP : Nat} {s : St} {t : SM} (q0_ : Sta w v m C nP s t) : C ≤ 240 := q0_.2.1
theorem Sta.iC {w : Cd} {v : Hv} {m : Md} {C nP : Nat} {s : St} {t : SM} (q0_ : Sta w v m C nP s t) : w.ins C = 0 := q0_.2.2.1
theorem Sta.E {w : Cd} {v : Hv} {m : Md} {C nP : Nat} {s : St} {t : SM} (q0_ : Sta w v m C nP s t) : Env m s t := q0_.2.2.2.1
theorem Sta.H {w : Cd} {v : Hv} {m : Md} {C nP : Nat} {s : St} {t : SM} (q0_ : Sta w v m C nP s t) : HR w v m C s t := q0_.2.2.2.2.1
theorem Sta.rx {w : Cd} {v : Hv} {m : Md} {C nP : Nat} {s : St} {t : SM} (q0_ : Sta w v m C nP s t) : ∀ k, k < C → RwX w k (s 21) := q0_.2.2.2.2.2.1
theorem Sta.rm {w : Cd} {v : Hv} {m : Md} {C nP : Nat} {s : St} {t : SM} (q0_ : Sta w v m C nP s t) : ∀ k, k < C → RwM w k t := q0_.2.2.2.2.2.2.1
theorem Sta.hnP {w : Cd} {v : Hv} {m : Md} {C nP : Nat} {s : St} {t : SM} (q0_ : Sta w v m C nP s t) : nP ≤ 240 := q0_.2.2.2.2.2.2.2.1
theorem Sta.px {w : Cd} {v : Hv} {m : Md} {C nP : Nat} {s : St} {t : SM} (q0_ : Sta w v m C nP s t) : ∀ j, j < nP → w.pl j < 2 ^ 32 ∧ s 23 (j * 1 + 0) = nI (w.pl j) ∧ t.2 25 j = lN (w.pl j) := q0_.2.2.2.2.2.2.2.2.1
theorem Sta.tb {w : Cd} {v : Hv} {m : Md} {C nP : Nat} {s : St} {t : SM} (q0_ : Sta w v m C nP s t) : ∀ k, k < C → w.op k = 14 → w.b k + w.a k < nP := q0_.2.2.2.2.2.2.2.2.2.1
theorem Sta.fs {w : Cd} {v : Hv} {m : Md} {C nP : Nat} {s : St} {t : SM} (q0_ : Sta w v m C nP s t) : ∀ f, f < m.nF → ∃ bg ls, FnS w C f s t bg ls ∧ v.hi bg = 0 ∧ v.lo bg = 0 := q0_.2.2.2.2.2.2.2.2.2.2.1
theorem Sta.lt {w : Cd} {v : Hv} {m : Md} {C nP : Nat} {s : St} {t : SM} (q0_ : Sta w v m C nP s t) : ∀ k, k < C → w.fn k < m.nF := q0_.2.2.2.2.2.2.2.2.2.2.2
/-- what running leaves alone -/
def RXf (s s' : St) : Prop := ∀ a, a ≤ 4 ∨ (8 ≤ a ∧ a ≤ 32) → s' a = s a
def RMf (t t' : SM) : Prop :=
  (t'.2 = t.2) ∧
  (∀ a, (1 ≤ a ∧ a ≤ 28) ∨ a = 31 ∨ a = 36 → t'.1 a = t.1 a) ∧
  (∀ j, j < 18 ∨ j = 19 ∨ j = 24 ∨ j = 25 → t'.1 0 j = t.1 0 j)
theorem RMf.l {t t' : SM} (q0_ : RMf t t') : t'.2 = t.2 := q0_.1
theorem RMf.a {t t' : SM} (q0_ : RMf t t') : ∀ a, (1 ≤ a ∧ a ≤ 28) ∨ a = 31 ∨ a = 36 → t'.1 a = t.1 a := q0_.2.1
theorem RMf.z {t t' : SM} (q0_ : RMf t t') : ∀ j, j < 18 ∨ j = 19 ∨ j = 24 ∨ j = 25 → t'.1 0 j = t.1 0 j := q0_.2.2
theorem RXf.refl (s : St) : RXf s s := fun _ _ => rfl
theorem RMf.refl (t : SM) : RMf t t := ⟨rfl, fun _ _ => rfl, fun _ _ => rfl⟩
theorem RXf.trans {s s1 s2 : St} (h : RXf s s1) (h2 : RXf s1 s2) : RXf s s2 := fun a q => (h2 a q).trans (h a q)
theorem RMf.trans {t t1 t2 : SM} (h : RMf t t1) (h2 : RMf t1 t2) : RMf t t2 := ⟨h2.l.trans h.l, fun a q => (h2.a a q).trans (h.a a q), fun a q => (h2.z a q).trans (h.z a q)⟩
theorem RXf.p {s s' : St} {a j : Nat} {x : Int32} (ha : ¬ (a ≤ 4 ∨ (8 ≤ a ∧ a ≤ 32))) (h : RXf s s') : RXf s (stp s' a j x) := fun i q => by rw [stp_ne _ _ _ (by omega)]; exact h i q
theorem RMf.p {t t' : SM} {a j : Nat} {x : Int32} (ha : 28 < a ∧ a ≠ 31 ∧ a ≠ 36) (h : RMf t t') : RMf t (stI t' a j x) :=
  ⟨h.l, fun i q => by rw [stI1, stp_ne _ _ _ (by omega)]; exact h.a i q, fun i q => by rw [stI1, stp_ne _ _ _ (by omega)]; exact h.z i q⟩
theorem RMf.p0 {t t' : SM} {j : Nat} {x : Int32} (hj : ¬ (j < 18 ∨ j = 19 ∨ j = 24 ∨ j = 25)) (h : RMf t t') : RMf t (stI t' 0 j x) :=
  ⟨h.l, fun i q => by rw [stI1, stp_ne _ _ _ (by omega)]; exact h.a i q, fun i q => by rw [stI1, stp_nj _ _ _ (by omega)]; exact h.z i q⟩
theorem WX.rx {b : Nat} {s s' : St} (h : WX b s s') : RXf s s' := fun a q => h.o a (by omega) (by omega) (by omega) (by omega)
theorem WM.rm {la c : Nat} {t t' : SM} (h : WM la c t t') : RMf t t' := ⟨h.l2, fun a q => h.o a (by omega) (by omega) (by omega) (by omega) (by omega), fun j q => h.z j (by omega) (by omega)⟩
theorem mpar_c {t t' : SM} (x : Int32) (h1 : t'.2 = t.2) (h2 : t'.1 0 6 = t.1 0 6) (h3 : t'.1 2 = t.1 2) : f_M_parameters t' x = f_M_parameters t x := by
  simp only [f_M_parameters, f_M_parameters_31, h1, h2, h3]
theorem Env.rg {m : Md} {s s' : St} {t t' : SM} (E : Env m s t) (hx : ∀ a, a = 1 ∨ (8 ≤ a ∧ a ≤ 15) → s' a = s a) (hm : RMf t t') : Env m s' t' := by
  have a1 := hx 1 (by omega)
  have a10 := hx 10 (by omega)
  have a11 := hx 11 (by omega)
  have a12 := hx 12 (by omega)
  have a13 := hx 13 (by omega)
  have a14 := hx 14 (by omega)
  have a15 := hx 15 (by omega)
  have b2 := hm.a 2 (by omega)
  have b3 := hm.a 3 (by omega)
  have b5 := hm.a 5 (by omega)
  have b24 := hm.a 24 (by omega)
  have c6 := hm.z 6 (by omega)
  have c7 := hm.z 7 (by omega)
  have c9 := hm.z 9 (by omega)
  have c11 := hm.z 11 (by omega)
  refine ⟨E.nF8, by rw [a12]; exact E.x12, by rw [c7]; exact E.m7, fun f hf => by rw [xpar_c _ a10 a11 a13]; exact E.pX f hf, fun f hf => by rw [xres_c _ a10 a11 a13]; exact E.rX f hf, fun f hf => by rw [mpar_c _ hm.l c6 b2]; exact E.pM f hf, fun f hf => by rw [hm.l, b2, b3]; exact E.tM f hf, E.p4, by rw [a13]; exact E.lX, by rw [b24]; exact E.lM, E.nG4, by rw [a14]; exact E.x14, by rw [c11]; exact E.m11, by rw [a15, b5]; exact E.gX, E.me1, by rw [a1]; exact E.xm, by rw [c9]; exact E.mm⟩
theorem Sta.rg {w : Cd} {v : Hv} {m : Md} {C nP : Nat} {s s' : St} {t t' : SM} (S : Sta w v m C nP s t) (hx : RXf s s') (hm : RMf t t') : Sta w v m C nP s' t' := by
  have a21 := hx 21 (by omega)
  have a23 := hx 23 (by omega)
  have a13 := hx 13 (by omega)
  refine ⟨S.W, S.hC, S.iC, S.E.rg (fun a q => hx a (by omega)) hm, ⟨by rw [a21]; exact S.H.x4, by rw [a21]; exact S.H.x5, by rw [hm.a 20 (by omega)]; exact S.H.m20, S.H.sr⟩, by rw [a21]; exact S.rx, fun k hk => ?_, S.hnP, by rw [a23, hm.l]; exact S.px, S.tb, fun f hf => ?_, S.lt⟩
  · have R := S.rm k hk
    exact ⟨by rw [hm.a 14 (by omega)]; exact R.c0, by rw [hm.l]; exact R.c1, by rw [hm.l]; exact R.c2, by rw [hm.a 17 (by omega)]; exact R.c3, by rw [hm.a 18 (by omega)]; exact R.c4, by rw [hm.a 19 (by omega)]; exact R.c5⟩
  · obtain ⟨bg, ls, Fs, h1, h2⟩ := S.fs f hf
    exact ⟨bg, ls, ⟨by rw [a13]; exact Fs.x2, by rw [hm.a 22 (by omega)]; exact Fs.m22, by rw [a13]; exact Fs.x3, by rw [hm.a 23 (by omega)]; exact Fs.m23, Fs.bl, Fs.lC, Fs.ib, Fs.ol, Fs.il, Fs.fn, Fs.nf⟩, h1, h2⟩
section CHN
variable {w : Cd} {C : Nat}
theorem dp0 (W : WF w C) {k : Nat} (hk : k ≤ C) (h : w.dp k = 0) : w.ins k = 0 := by
  by_cases q : w.ins k = 0
  · exact q
  · have := (W.i2 k hk q).2.1; omega
theorem chn (W : WF w C) {k : Nat} (hk : k ≤ C) : ∀ j, j < w.dp k → ∃ B, ups w.ins j (w.ins k) = B + 1 ∧ B < k ∧ (2 ≤ w.op B ∧ w.op B ≤ 4) ∧ w.dp B + j + 1 = w.dp k ∧ w.fn B = w.fn k ∧ ups w.ins (j + 1) (w.ins k) = w.ins B := by
  intro j
  induction j with
  | zero =>
    intro hj
    have q : w.ins k ≠ 0 := fun z => by have := W.i3 k hk z; omega
    obtain ⟨h1, h2, h3⟩ := W.i2 k hk q
    have h4 := W.i1 k hk
    refine ⟨w.ins k - 1, by show w.ins k = _; omega, by omega, h1, by omega, h3, ?_⟩
    rw [ups_s]
    show up w.ins (w.ins k) = _
    rw [up, if_neg q]
  | succ j ih =>
    intro hj
    obtain ⟨B, h1, h2, h3, h4, h5, h6⟩ := ih (by omega)
    have q : w.ins B ≠ 0 := fun z => by have := W.i3 B (by omega) z; omega
    obtain ⟨g1, g2, g3⟩ := W.i2 B (by omega) q
    have g4 := W.i1 B (by omega)
    refine ⟨w.ins B - 1, by rw [h6]; omega, by omega, g1, by omega, by rw [g3, h5], ?_⟩
    rw [ups_s, h6, up, if_neg q]
theorem chn0 (W : WF w C) {k : Nat} (hk : k ≤ C) : ups w.ins (w.dp k) (w.ins k) = 0 := by
  by_cases h : w.dp k = 0
  · rw [h]; exact dp0 W hk h
  · obtain ⟨B, h1, h2, h3, h4, h5, h6⟩ := chn W hk (w.dp k - 1) (by omega)
    rw [show w.dp k = w.dp k - 1 + 1 by omega, h6]
    exact dp0 W (by omega) (by omega)
theorem en_e (W : WF w C) (iC : w.ins C = 0) {B : Nat} (hB : B < C) (ho : 2 ≤ w.op B ∧ w.op B ≤ 4) : ∃ e, w.en B = e + 1 ∧ B < e ∧ e < C ∧ w.op e = 11 ∧ w.ins e = B + 1 := by
  rcases W.op1 B hB ho with ⟨_, j, hj⟩ | h
  · rw [iC, ups_0] at hj; omega
  · exact h
end CHN
section STA
variable {w : Cd} {v : Hv} {m : Md} {C nP : Nat} {s : St} {t : SM}
theorem Sta.alv (S : Sta w v m C nP s t) {k : Nat} (hk : k < C) (h : v.lo k = 0) : ∀ j B, ups w.ins j (w.ins k) = B + 1 → B < k ∧ v.lo B = 0 := by
  intro j
  induction j with
  | zero =>
    intro B hB
    have e : w.ins k = B + 1 := hB
    have h1 := S.W.i1 k (by omega)
    have h2 := (S.H.sr k hk).ul (by omega) h
    rw [e, Nat.add_sub_cancel] at h2
    exact ⟨by omega, h2⟩
  | succ j ih =>
    intro B hB
    rw [ups_s, up] at hB
    by_cases q : ups w.ins j (w.ins k) = 0
    · rw [if_pos q] at hB; omega
    · rw [if_neg q] at hB
      obtain ⟨h1, h2⟩ := ih (ups w.ins j (w.ins k) - 1) (by omega)
      have h3 := S.W.i1 (ups w.ins j (w.ins k) - 1) (by omega)
      have h4 := (S.H.sr (ups w.ins j (w.ins k) - 1) (by omega)).ul (by omega) h2
      rw [hB, Nat.add_sub_cancel] at h4
      exact ⟨by omega, h4⟩
theorem Sta.h16 (S : Sta w v m C nP s t) {k : Nat} (hk : k < C) : v.hi k ≤ 16 := (S.H.sr k hk).h16
theorem Sta.kn (S : Sta w v m C nP s t) {k : Nat} (hk : k < C) : kno (w.op k) = true ∧ oko (w.op k) (w.a k) (w.b k) := S.W.ok k hk
theorem Sta.lastC (S : Sta w v m C nP s t) {k : Nat} (hk : k < C) (h : ¬ (w.op k = 11 ∧ w.ins k = 0)) : k + 1 < C ∧ w.fn (k + 1) = w.fn k := by
  obtain ⟨bg, ls, Fs, _, _⟩ := S.fs (w.fn k) (S.lt k hk)
  have h1 := Fs.nf k hk rfl
  have h2 := Fs.lC
  have : k ≠ ls := fun e => h (by rw [e]; exact ⟨Fs.ol, Fs.il⟩)
  exact ⟨by omega, Fs.fn (k + 1) (by omega) (by omega)⟩
theorem Sta.clo (S : Sta w v m C nP s t) {k : Nat} (hk : k < C) (h11 : w.op k = 11) (h0 : w.ins k = 0) : ∃ bg, FnS w C (w.fn k) s t bg k := by
  obtain ⟨bg, ls, Fs, _, _⟩ := S.fs (w.fn k) (S.lt k hk)
  have h1 := Fs.nf k hk rfl
  have h2 := Fs.lC
  by_cases q : k = ls
  · subst q; exact ⟨bg, Fs⟩
  · have h3 := S.W.nf k hk
    rw [fnx, if_pos ⟨h11, h0⟩, Fs.fn (k + 1) (by omega) (by omega)] at h3
    omega
end STA
