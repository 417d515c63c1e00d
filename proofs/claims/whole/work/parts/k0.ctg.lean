-- register code is made: what it leaves alone, how the functions lie
def CXf (s s' : St) : Prop :=
  (∀ a, a ≠ 4 → a ≠ 21 → a ≠ 30 → a ≠ 32 → s' a = s a) ∧
  (∀ q, q % 7 ≠ 6 → s' 21 q = s 21 q)
theorem CXf.o {s s' : St} (q0_ : CXf s s') : ∀ a, a ≠ 4 → a ≠ 21 → a ≠ 30 → a ≠ 32 → s' a = s a := q0_.1
theorem CXf.c {s s' : St} (q0_ : CXf s s') : ∀ q, q % 7 ≠ 6 → s' 21 q = s 21 q := q0_.2
def CMf (t t' : SM) : Prop :=
  (t'.2 = t.2) ∧
  (∀ a, a ≠ 0 → a ≠ 21 → a ≠ 36 → t'.1 a = t.1 a) ∧
  (∀ j, j ≠ 0 → j ≠ 24 → j ≠ 25 → t'.1 0 j = t.1 0 j)
theorem CMf.l {t t' : SM} (q0_ : CMf t t') : t'.2 = t.2 := q0_.1
theorem CMf.o {t t' : SM} (q0_ : CMf t t') : ∀ a, a ≠ 0 → a ≠ 21 → a ≠ 36 → t'.1 a = t.1 a := q0_.2.1
theorem CMf.z {t t' : SM} (q0_ : CMf t t') : ∀ j, j ≠ 0 → j ≠ 24 → j ≠ 25 → t'.1 0 j = t.1 0 j := q0_.2.2
theorem CXf.refl (s : St) : CXf s s := ⟨fun _ _ _ _ _ => rfl, fun _ _ => rfl⟩
theorem CMf.refl (t : SM) : CMf t t := ⟨rfl, fun _ _ _ _ => rfl, fun _ _ _ _ => rfl⟩
theorem CXf.trans {s s1 s2 : St} (h : CXf s s1) (h2 : CXf s1 s2) : CXf s s2 := ⟨fun a a1 a2 a3 a4 => (h2.o a a1 a2 a3 a4).trans (h.o a a1 a2 a3 a4), fun q hq => (h2.c q hq).trans (h.c q hq)⟩
theorem CMf.trans {t t1 t2 : SM} (h : CMf t t1) (h2 : CMf t1 t2) : CMf t t2 := ⟨h2.l.trans h.l, fun a a1 a2 a3 => (h2.o a a1 a2 a3).trans (h.o a a1 a2 a3), fun j j1 j2 j3 => (h2.z j j1 j2 j3).trans (h.z j j1 j2 j3)⟩
theorem CXf.p {s s' : St} {a j : Nat} {x : Int32} (ha : a = 4 ∨ a = 30 ∨ a = 32) (h : CXf s s') : CXf s (stp s' a j x) :=
  ⟨fun i a1 a2 a3 a4 => by rw [stp_ne _ _ _ (by omega)]; exact h.o i a1 a2 a3 a4, fun q hq => by rw [stp_ne _ _ _ (by omega)]; exact h.c q hq⟩
theorem CXf.p21 {s s' : St} {k : Nat} {x : Int32} (h : CXf s s') : CXf s (stp s' 21 (k * 7 + 6) x) :=
  ⟨fun i a1 a2 a3 a4 => by rw [stp_ne _ _ _ a2]; exact h.o i a1 a2 a3 a4, fun q hq => by rw [stp_nj _ _ _ (by omega)]; exact h.c q hq⟩
theorem CMf.p {t t' : SM} {a j : Nat} {x : Int32} (ha : a = 21 ∨ a = 36) (h : CMf t t') : CMf t (stI t' a j x) :=
  ⟨h.l, fun i a1 a2 a3 => by rw [stI1, stp_ne _ _ _ (by omega)]; exact h.o i a1 a2 a3, fun i j1 j2 j3 => by rw [stI1, stp_ne _ _ _ (by omega)]; exact h.z i j1 j2 j3⟩
theorem CMf.p0 {t t' : SM} {j : Nat} {x : Int32} (hj : j = 0 ∨ j = 24 ∨ j = 25) (h : CMf t t') : CMf t (stI t' 0 j x) :=
  ⟨h.l, fun i a1 a2 a3 => by rw [stI1, stp_ne _ _ _ a1]; exact h.o i a1 a2 a3, fun i j1 j2 j3 => by rw [stI1, stp_nj _ _ _ (by omega)]; exact h.z i j1 j2 j3⟩
theorem Env.rc {m : Md} {s s' : St} {t t' : SM} (E : Env m s t) (hx : CXf s s') (hm : CMf t t') : Env m s' t' := by
  have a1 := hx.o 1 (by decide) (by decide) (by decide) (by decide)
  have a10 := hx.o 10 (by decide) (by decide) (by decide) (by decide)
  have a11 := hx.o 11 (by decide) (by decide) (by decide) (by decide)
  have a12 := hx.o 12 (by decide) (by decide) (by decide) (by decide)
  have a13 := hx.o 13 (by decide) (by decide) (by decide) (by decide)
  have a14 := hx.o 14 (by decide) (by decide) (by decide) (by decide)
  have a15 := hx.o 15 (by decide) (by decide) (by decide) (by decide)
  have b2 := hm.o 2 (by decide) (by decide) (by decide)
  have b3 := hm.o 3 (by decide) (by decide) (by decide)
  have b5 := hm.o 5 (by decide) (by decide) (by decide)
  have b24 := hm.o 24 (by decide) (by decide) (by decide)
  have c6 := hm.z 6 (by decide) (by decide) (by decide)
  have c7 := hm.z 7 (by decide) (by decide) (by decide)
  have c9 := hm.z 9 (by decide) (by decide) (by decide)
  have c11 := hm.z 11 (by decide) (by decide) (by decide)
  exact ⟨E.nF8, by rw [a12]; exact E.x12, by rw [c7]; exact E.m7, fun f hf => by rw [xpar_c _ a10 a11 a13]; exact E.pX f hf, fun f hf => by rw [xres_c _ a10 a11 a13]; exact E.rX f hf, fun f hf => by rw [mpar_c _ hm.l c6 b2]; exact E.pM f hf, fun f hf => by rw [hm.l, b2, b3]; exact E.tM f hf, E.p4, by rw [a13]; exact E.lX, by rw [b24]; exact E.lM, E.nG4, by rw [a14]; exact E.x14, by rw [c11]; exact E.m11, by rw [a15, b5]; exact E.gX, E.me1, by rw [a1]; exact E.xm, by rw [c9]; exact E.mm⟩
theorem FnS.rc {w : Cd} {C f : Nat} {s s' : St} {t t' : SM} {bg ls : Nat} (Fs : FnS w C f s t bg ls) (hx : CXf s s') (hm : CMf t t') : FnS w C f s' t' bg ls := by
  have a13 := hx.o 13 (by decide) (by decide) (by decide) (by decide)
  have b22 := hm.o 22 (by decide) (by decide) (by decide)
  have b23 := hm.o 23 (by decide) (by decide) (by decide)
  exact ⟨by rw [a13]; exact Fs.x2, by rw [b22]; exact Fs.m22, by rw [a13]; exact Fs.x3, by rw [b23]; exact Fs.m23, Fs.bl, Fs.lC, Fs.ib, Fs.ol, Fs.il, Fs.fn, Fs.nf⟩
theorem Sta.rc {w : Cd} {v : Hv} {m : Md} {C nP : Nat} {s s' : St} {t t' : SM} (S : Sta w v m C nP s t) (hx : CXf s s') (hm : CMf t t') : Sta w v m C nP s' t' := by
  have a23 := hx.o 23 (by decide) (by decide) (by decide) (by decide)
  refine ⟨S.W, S.hC, S.iC, S.E.rc hx hm, ⟨fun q hq => by rw [hx.c _ (by omega)]; exact S.H.x4 q hq, fun q hq => by rw [hx.c _ (by omega)]; exact S.H.x5 q hq, by rw [hm.o 20 (by decide) (by decide) (by decide)]; exact S.H.m20, S.H.sr⟩, fun k hk => ?_, fun k hk => ?_, S.hnP, by rw [a23, hm.l]; exact S.px, S.tb, fun f hf => ?_, S.lt⟩
  · have R := S.rx k hk
    exact ⟨by rw [hx.c _ (by omega)]; exact R.c0, by rw [hx.c _ (by omega)]; exact R.c1, by rw [hx.c _ (by omega)]; exact R.c2, by rw [hx.c _ (by omega)]; exact R.c3⟩
  · have R := S.rm k hk
    exact ⟨by rw [hm.o 14 (by decide) (by decide) (by decide)]; exact R.c0, by rw [hm.l]; exact R.c1, by rw [hm.l]; exact R.c2, by rw [hm.o 17 (by decide) (by decide) (by decide)]; exact R.c3, by rw [hm.o 18 (by decide) (by decide) (by decide)]; exact R.c4, by rw [hm.o 19 (by decide) (by decide) (by decide)]; exact R.c5⟩
  · obtain ⟨bg, ls, Fs, h1, h2⟩ := S.fs f hf
    exact ⟨bg, ls, Fs.rc hx hm, h1, h2⟩
/-- the functions' rows, one behind the other -/
def Ctg (w : Cd) (m : Md) (C : Nat) (bgf : Nat → Nat) (lsf : Nat → Nat) (s : St) (t : SM) : Prop :=
  (∀ f, f < m.nF → FnS w C f s t (bgf f) (lsf f)) ∧
  (bgf 0 = 0) ∧
  (∀ f, f < m.nF → bgf (f + 1) = lsf f + 1) ∧
  (bgf m.nF = C)
theorem Ctg.fs {w : Cd} {m : Md} {C : Nat} {bgf : Nat → Nat} {lsf : Nat → Nat} {s : St} {t : SM} (q0_ : Ctg w m C bgf lsf s t) : ∀ f, f < m.nF → FnS w C f s t (bgf f) (lsf f) := q0_.1
theorem Ctg.b0 {w : Cd} {m : Md} {C : Nat} {bgf : Nat → Nat} {lsf : Nat → Nat} {s : St} {t : SM} (q0_ : Ctg w m C bgf lsf s t) : bgf 0 = 0 := q0_.2.1
theorem Ctg.bn {w : Cd} {m : Md} {C : Nat} {bgf : Nat → Nat} {lsf : Nat → Nat} {s : St} {t : SM} (q0_ : Ctg w m C bgf lsf s t) : ∀ f, f < m.nF → bgf (f + 1) = lsf f + 1 := q0_.2.2.1
theorem Ctg.bC {w : Cd} {m : Md} {C : Nat} {bgf : Nat → Nat} {lsf : Nat → Nat} {s : St} {t : SM} (q0_ : Ctg w m C bgf lsf s t) : bgf m.nF = C := q0_.2.2.2
theorem Ctg.rc {w : Cd} {m : Md} {C : Nat} {bgf lsf : Nat → Nat} {s s' : St} {t t' : SM} (G : Ctg w m C bgf lsf s t) (hx : CXf s s') (hm : CMf t t') : Ctg w m C bgf lsf s' t' :=
  ⟨fun f hf => (G.fs f hf).rc hx hm, G.b0, G.bn, G.bC⟩
section CTG
variable {w : Cd} {v : Hv} {m : Md} {C nP : Nat} {s : St} {t : SM} {bgf lsf : Nat → Nat}
theorem fn_mo (W : WF w C) {k : Nat} : ∀ d, k + d ≤ C → w.fn k ≤ w.fn (k + d) := by
  intro d
  induction d with
  | zero => intro _; exact Nat.le_refl _
  | succ d ih =>
    intro h
    have h1 := ih (by omega)
    have h2 := W.nf (k + d) (by omega)
    have h3 : w.fn (k + d) ≤ fnx w (k + d) := by unfold fnx; split <;> omega
    rw [← Nat.add_assoc, h2]; omega
theorem Sta.ctg (S : Sta w v m C nP s t) : ∃ bgf lsf, Ctg w m C bgf lsf s t := by
  have hC := S.hC
  let bgf : Nat → Nat := fun f => if f < m.nF then Int32.toNatClampNeg (s 13 (f * 4 + 2)) else C
  let lsf : Nat → Nat := fun f => Int32.toNatClampNeg (s 13 (f * 4 + 3))
  have key : ∀ f, f < m.nF → FnS w C f s t (bgf f) (lsf f) := by
    intro f hf
    obtain ⟨bg, ls, Fs, h1, h2⟩ := S.fs f hf
    have hl := Fs.lC
    have hb := Fs.bl
    have e1 : bgf f = bg := by
      show (if f < m.nF then Int32.toNatClampNeg (s 13 (f * 4 + 2)) else C) = bg
      rw [if_pos hf, Fs.x2, nI_clamp (by omega)]
    have e2 : lsf f = ls := by
      show Int32.toNatClampNeg (s 13 (f * 4 + 3)) = ls
      rw [Fs.x3, nI_clamp (by omega)]
    rw [e1, e2]; exact Fs
  have bN : bgf m.nF = C := by
    show (if m.nF < m.nF then _ else C) = C
    rw [if_neg (Nat.lt_irrefl _)]
  refine ⟨bgf, lsf, key, ?_, fun f hf => ?_, bN⟩
  · by_cases h : 0 < m.nF
    · have Fs := key 0 h
      have := Fs.lC; have := Fs.bl
      have := (Fs.nf 0 (by omega) S.W.f0).1
      omega
    · have : C = 0 := by
        by_cases q : C = 0
        · exact q
        · have := S.lt 0 (by omega); omega
      have e : m.nF = 0 := by omega
      rw [e] at bN; omega
  · have Fs := key f hf
    have hl := Fs.lC; have hb := Fs.bl
    have n1 := S.W.nf (lsf f) hl
    rw [fnx, if_pos ⟨Fs.ol, Fs.il⟩, Fs.fn (lsf f) hb (Nat.le_refl _)] at n1
    by_cases hf1 : f + 1 < m.nF
    · have F2 := key (f + 1) hf1
      have hl2 := F2.lC; have hb2 := F2.bl
      have lt : lsf f < bgf (f + 1) := by
        by_cases q : lsf f < bgf (f + 1)
        · exact q
        · have := fn_mo S.W (k := bgf (f + 1)) (lsf f - bgf (f + 1)) (by omega)
          rw [show bgf (f + 1) + (lsf f - bgf (f + 1)) = lsf f by omega, Fs.fn (lsf f) hb (Nat.le_refl _), F2.fn _ (Nat.le_refl _) hb2] at this
          omega
      have := (F2.nf (lsf f + 1) (by omega) n1).1
      omega
    · have e : m.nF = f + 1 := by omega
      rw [e] at bN
      rw [bN]
      by_cases q : lsf f + 1 = C
      · exact q.symm
      · have := S.lt (lsf f + 1) (by omega)
        omega
/-- the last row of a body is its only END outside of blocks -/
theorem Ctg.ls (S : Sta w v m C nP s t) (G : Ctg w m C bgf lsf s t) {f k : Nat} (hf : f < m.nF) (h1 : bgf f ≤ k) (h2 : k ≤ lsf f) : (w.op k = 11 ∧ w.ins k = 0) ↔ k = lsf f := by
  have Fs := G.fs f hf
  have := Fs.lC
  constructor
  · intro ⟨a, b⟩
    by_cases q : k = lsf f
    · exact q
    · have h3 := S.W.nf k (by omega)
      rw [fnx, if_pos ⟨a, b⟩, Fs.fn (k + 1) (by omega) (by omega), Fs.fn k h1 h2] at h3
      omega
  · intro e; rw [e]; exact ⟨Fs.ol, Fs.il⟩
/-- how many entries a row has: the class's answer -/
theorem ent_x (S : Sta w v m C nP s t) (G : Ctg w m C bgf lsf s t) {f k : Nat} (hf : f < m.nF) (h1 : bgf f ≤ k) (h2 : k ≤ lsf f) : f_RC_entriesOf s (nI k) (nI (lsf f)) = some (nI (cst w v k)) := by
  have hC := S.hC
  have Fs := G.fs f hf
  have hl := Fs.lC
  have hk : k < C := by omega
  have R := S.rx k hk
  have kn := S.kn hk
  have ho := kno_lt kn.1
  have hls := G.ls S hf h1 h2
  have l1 := (S.H.sr k hk).l1
  rw [f_RC_entriesOf, tg_240_7_0 (by omega), R.c0, lt1]
  by_cases e : k = lsf f
  · obtain ⟨z1, z2⟩ := hls.mpr e
    rw [if_pos (by rw [← e]), cst, if_pos z1, if_pos z2]; rfl
  · rw [if_neg (fun q => e ((nI_eq (by omega) (by omega)).mp q))]
    by_cases h11 : w.op k = 11
    · rw [if_pos (show nI (w.op k) = 11 by rw [h11]; rfl), f_RC_entriesOf_41, cst, if_pos h11, if_neg (fun q => e (hls.mp ⟨h11, q⟩))]; rfl
    · rw [if_neg (show ¬ nI (w.op k) = 11 from fun q => h11 ((nI_eq (b := 11) (by omega) (by decide)).mp q)), tg_240_7_5 (by omega), S.H.x5 k hk, lt1, cst, if_neg h11]
      by_cases hlo : v.lo k = 0
      · rw [if_neg (show ¬ nI (1 - v.lo k) = 0 by rw [hlo]; decide), if_pos hlo]
        by_cases h14 : w.op k = 14
        · rw [if_pos (show nI (w.op k) = 14 by rw [h14]; rfl), if_pos h14, tg_240_7_1 (by omega), R.c1, lt1, xF, if_neg (by omega), if_neg (by omega), show nI (w.a k) + 2 = nI (w.a k + 2) from nI_add _ 2, lt1, f_RC_entriesOf_67]
        · rw [if_neg (show ¬ nI (w.op k) = 14 from fun q => h14 ((nI_eq (b := 14) (by omega) (by decide)).mp q)), if_neg h14, f_RC_entriesOf_67]; rfl
      · rw [if_pos (show nI (1 - v.lo k) = 0 by rw [show v.lo k = 1 by omega]; rfl), if_neg hlo, f_RC_entriesOf_41]; rfl
/-- the other side's -/
theorem ent_m (S : Sta w v m C nP s t) (G : Ctg w m C bgf lsf s t) {f k : Nat} (hf : f < m.nF) (h1 : bgf f ≤ k) (h2 : k ≤ lsf f) (hlo : v.lo k = 0 ∨ k = lsf f) : f_M_entriesOf t (nI f) (nI k) = some (nI (cst w v k)) := by
  have hC := S.hC
  have h8 := S.E.nF8
  have Fs := G.fs f hf
  have hl := Fs.lC
  have hk : k < C := by omega
  have R := S.rm k hk
  have kn := S.kn hk
  have ho := kno_lt kn.1
  have hls := G.ls S hf h1 h2
  rw [f_M_entriesOf, gi_n (show k < 250 by omega) (by decide), nI_clamp (show k < 2 ^ 31 by omega), R.c0, lt1]
  by_cases h11 : w.op k = 11
  · rw [if_pos (show nI (w.op k) = 11 by rw [h11]; rfl), gi_n (show f < 8 by omega) (by decide), nI_clamp (show f < 2 ^ 31 by omega), Fs.m23, lt1, cst, if_pos h11]
    by_cases e : k = lsf f
    · rw [if_pos (by rw [← e]), f_M_entriesOf_26, if_pos (hls.mpr e).2]; rfl
    · rw [if_neg (fun q => e ((nI_eq (by omega) (by omega)).mp q)), f_M_entriesOf_26, if_neg (fun q => e (hls.mp ⟨h11, q⟩))]; rfl
  · have hlo' : v.lo k = 0 := by
      rcases hlo with q | q
      · exact q
      · exact absurd (hls.mpr q).1 h11
    rw [if_neg (show ¬ nI (w.op k) = 11 from fun q => h11 ((nI_eq (b := 11) (by omega) (by decide)).mp q)), gi_n (show k < 250 by omega) (by decide), lt1, cst, if_neg h11, if_pos hlo']
    by_cases h14 : w.op k = 14
    · rw [if_pos (show nI (w.op k) = 14 by rw [h14]; rfl), if_pos h14, gi_n (show k < 250 by omega) (by decide), R.c1, mF, if_neg (by omega), lt1, lN_i, lt1, show 2 + nI (w.a k) = nI (2 + w.a k) from nI_add 2 _, lt1, f_M_entriesOf_51, Nat.add_comm]
    · rw [if_neg (show ¬ nI (w.op k) = 14 from fun q => h14 ((nI_eq (b := 14) (by omega) (by decide)).mp q)), if_neg h14, f_M_entriesOf_51]; rfl
end CTG
