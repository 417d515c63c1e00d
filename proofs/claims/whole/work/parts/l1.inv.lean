-- what holds between calls, on both sides
def Bs (s : St) (t : SM) : Prop :=
  (∃ n, n ≤ 240 ∧ s 2 1 = nI n ∧ t.1 0 1 = nI n) ∧
  (∀ j, j < 240 → ∃ b, b < 256 ∧ s 26 j = nI b ∧ t.1 1 j = nI b)
theorem Bs.f {s : St} {t : SM} (q0_ : Bs s t) : ∃ n, n ≤ 240 ∧ s 2 1 = nI n ∧ t.1 0 1 = nI n := q0_.1
theorem Bs.b {s : St} {t : SM} (q0_ : Bs s t) : ∀ j, j < 240 → ∃ b, b < 256 ∧ s 26 j = nI b ∧ t.1 1 j = nI b := q0_.2
def NL (s : St) (t : SM) : Prop :=
  (s 0 1 = 0) ∧
  (s 0 0 = 0) ∧
  (s 0 2 = 0) ∧
  (s 0 3 = -1) ∧
  (s 0 4 = 0) ∧
  (t.1 0 2 = 0) ∧
  (t.1 0 18 = 0) ∧
  (t.1 0 19 = 0) ∧
  (t.1 0 20 = 0) ∧
  (t.1 0 21 = 0) ∧
  (t.1 0 24 = 0) ∧
  (t.1 0 25 = 0)
theorem NL.x1 {s : St} {t : SM} (q0_ : NL s t) : s 0 1 = 0 := q0_.1
theorem NL.x0 {s : St} {t : SM} (q0_ : NL s t) : s 0 0 = 0 := q0_.2.1
theorem NL.x2 {s : St} {t : SM} (q0_ : NL s t) : s 0 2 = 0 := q0_.2.2.1
theorem NL.x3 {s : St} {t : SM} (q0_ : NL s t) : s 0 3 = -1 := q0_.2.2.2.1
theorem NL.x4 {s : St} {t : SM} (q0_ : NL s t) : s 0 4 = 0 := q0_.2.2.2.2.1
theorem NL.m2 {s : St} {t : SM} (q0_ : NL s t) : t.1 0 2 = 0 := q0_.2.2.2.2.2.1
theorem NL.m18 {s : St} {t : SM} (q0_ : NL s t) : t.1 0 18 = 0 := q0_.2.2.2.2.2.2.1
theorem NL.m19 {s : St} {t : SM} (q0_ : NL s t) : t.1 0 19 = 0 := q0_.2.2.2.2.2.2.2.1
theorem NL.m20 {s : St} {t : SM} (q0_ : NL s t) : t.1 0 20 = 0 := q0_.2.2.2.2.2.2.2.2.1
theorem NL.m21 {s : St} {t : SM} (q0_ : NL s t) : t.1 0 21 = 0 := q0_.2.2.2.2.2.2.2.2.2.1
theorem NL.m24 {s : St} {t : SM} (q0_ : NL s t) : t.1 0 24 = 0 := q0_.2.2.2.2.2.2.2.2.2.2.1
theorem NL.m25 {s : St} {t : SM} (q0_ : NL s t) : t.1 0 25 = 0 := q0_.2.2.2.2.2.2.2.2.2.2.2
def Arg (s : St) (t : SM) : Prop := ∃ n, n ≤ 4 ∧ s 0 0 = nI n ∧ t.1 0 19 = nI n ∧ ∀ i, i < n → s 9 i = t.1 31 i
def Cpd (w : Cd) (v : Hv) (m : Md) (C : Nat) (s : St) (t : SM) : Prop :=
  (s 0 2 = 0 ∧ t.1 0 24 = 0 ∧ t.1 0 25 = 0) ∨ (s 0 2 = 1 ∧ t.1 0 24 = 1 ∧ (∃ bgf lsf, Ctg w m C bgf lsf s t ∧ RCr w v m C bgf lsf s t) ∧ t.1 0 25 = nI (ent w v C * 4) ∧ s 4 1 = nI (ent w v C) ∧ ∀ j, j < ent w v C * 4 → s 30 j = t.1 36 j)
def Act (w : Cd) (v : Hv) (m : Md) (C : Nat) (s : St) (t : SM) : Prop :=
  (s 0 3 = -1 ∧ t.1 0 20 = 0 ∧ s 0 4 = t.1 0 21) ∨ (s 0 3 = 0 ∧ s 0 4 = 0 ∧ ∃ c F K L k, SyS w v m C c F K L k s t) ∨ (s 0 3 = 1 ∧ s 0 2 = 1 ∧ s 0 4 = 0 ∧ ∃ c F K L k, SyR w v m C c F K L k s t)
def LD (w : Cd) (v : Hv) (m : Md) (C nP mx : Nat) (s : St) (t : SM) : Prop :=
  (s 0 1 = 1) ∧
  (t.1 0 2 = 1) ∧
  (Sta w v m C nP s t) ∧
  (ent w v C ≤ 240) ∧
  (∃ p, DR m.nG m.me mx s t p) ∧
  (Arg s t) ∧
  (Cpd w v m C s t) ∧
  (Act w v m C s t)
theorem LD.x1 {w : Cd} {v : Hv} {m : Md} {C nP mx : Nat} {s : St} {t : SM} (q0_ : LD w v m C nP mx s t) : s 0 1 = 1 := q0_.1
theorem LD.m2 {w : Cd} {v : Hv} {m : Md} {C nP mx : Nat} {s : St} {t : SM} (q0_ : LD w v m C nP mx s t) : t.1 0 2 = 1 := q0_.2.1
theorem LD.S {w : Cd} {v : Hv} {m : Md} {C nP mx : Nat} {s : St} {t : SM} (q0_ : LD w v m C nP mx s t) : Sta w v m C nP s t := q0_.2.2.1
theorem LD.e24 {w : Cd} {v : Hv} {m : Md} {C nP mx : Nat} {s : St} {t : SM} (q0_ : LD w v m C nP mx s t) : ent w v C ≤ 240 := q0_.2.2.2.1
theorem LD.D {w : Cd} {v : Hv} {m : Md} {C nP mx : Nat} {s : St} {t : SM} (q0_ : LD w v m C nP mx s t) : ∃ p, DR m.nG m.me mx s t p := q0_.2.2.2.2.1
theorem LD.ar {w : Cd} {v : Hv} {m : Md} {C nP mx : Nat} {s : St} {t : SM} (q0_ : LD w v m C nP mx s t) : Arg s t := q0_.2.2.2.2.2.1
theorem LD.cp {w : Cd} {v : Hv} {m : Md} {C nP mx : Nat} {s : St} {t : SM} (q0_ : LD w v m C nP mx s t) : Cpd w v m C s t := q0_.2.2.2.2.2.2.1
theorem LD.ac {w : Cd} {v : Hv} {m : Md} {C nP mx : Nat} {s : St} {t : SM} (q0_ : LD w v m C nP mx s t) : Act w v m C s t := q0_.2.2.2.2.2.2.2
def IV (s : St) (t : SM) : Prop := Bs s t ∧ (NL s t ∨ ∃ w v m C nP mx, LD w v m C nP mx s t)
section DEP
variable {w : Cd} {v : Hv} {m : Md} {C nP : Nat} {s s' : St} {t t' : SM}
theorem Env.dp (E : Env m s t) (hx : ∀ a, a = 1 ∨ (10 ≤ a ∧ a ≤ 15) → s' a = s a) (l : t'.2 = t.2) (o : ∀ a, a = 2 ∨ a = 3 ∨ a = 5 ∨ a = 24 → t'.1 a = t.1 a) (z : ∀ j, 5 < j → j < 12 → t'.1 0 j = t.1 0 j) : Env m s' t' := by
  have a1 := hx 1 (by omega)
  have a10 := hx 10 (by omega)
  have a11 := hx 11 (by omega)
  have a12 := hx 12 (by omega)
  have a13 := hx 13 (by omega)
  have a14 := hx 14 (by omega)
  have a15 := hx 15 (by omega)
  have b2 := o 2 (by omega)
  have b3 := o 3 (by omega)
  have b5 := o 5 (by omega)
  have b24 := o 24 (by omega)
  have c6 := z 6 (by omega) (by omega)
  have c7 := z 7 (by omega) (by omega)
  have c9 := z 9 (by omega) (by omega)
  have c11 := z 11 (by omega) (by omega)
  exact ⟨E.nF8, by rw [a12]; exact E.x12, by rw [c7]; exact E.m7, fun f hf => by rw [xpar_c _ a10 a11 a13]; exact E.pX f hf, fun f hf => by rw [xres_c _ a10 a11 a13]; exact E.rX f hf, fun f hf => by rw [mpar_c _ l c6 b2]; exact E.pM f hf, fun f hf => by rw [l, b2, b3]; exact E.tM f hf, E.p4, by rw [a13]; exact E.lX, by rw [b24]; exact E.lM, E.nG4, by rw [a14]; exact E.x14, by rw [c11]; exact E.m11, by rw [a15, b5]; exact E.gX, E.me1, by rw [a1]; exact E.xm, by rw [c9]; exact E.mm⟩
theorem FnS.dp {f bg ls : Nat} (Fs : FnS w C f s t bg ls) (a13 : s' 13 = s 13) (b22 : t'.1 22 = t.1 22) (b23 : t'.1 23 = t.1 23) : FnS w C f s' t' bg ls :=
  ⟨by rw [a13]; exact Fs.x2, by rw [b22]; exact Fs.m22, by rw [a13]; exact Fs.x3, by rw [b23]; exact Fs.m23, Fs.bl, Fs.lC, Fs.ib, Fs.ol, Fs.il, Fs.fn, Fs.nf⟩
theorem Sta.dp (S : Sta w v m C nP s t) (hx : ∀ a, a = 1 ∨ (10 ≤ a ∧ a ≤ 15) ∨ a = 21 ∨ a = 23 → s' a = s a) (l : t'.2 = t.2) (o : ∀ a, (1 ≤ a ∧ a ≤ 20) ∨ (22 ≤ a ∧ a ≤ 24) → t'.1 a = t.1 a) (z : ∀ j, 5 < j → j < 12 → t'.1 0 j = t.1 0 j) : Sta w v m C nP s' t' := by
  have a21 := hx 21 (by omega)
  have a23 := hx 23 (by omega)
  refine ⟨S.W, S.hC, S.iC, S.E.dp (fun a q => hx a (by omega)) l (fun a q => o a (by omega)) z, ⟨by rw [a21]; exact S.H.x4, by rw [a21]; exact S.H.x5, by rw [o 20 (by omega)]; exact S.H.m20, S.H.sr⟩, by rw [a21]; exact S.rx, fun k hk => ?_, S.hnP, by rw [a23, l]; exact S.px, S.tb, fun f hf => ?_, S.lt⟩
  · have R := S.rm k hk
    exact ⟨by rw [o 14 (by omega)]; exact R.c0, by rw [l]; exact R.c1, by rw [l]; exact R.c2, by rw [o 17 (by omega)]; exact R.c3, by rw [o 18 (by omega)]; exact R.c4, by rw [o 19 (by omega)]; exact R.c5⟩
  · obtain ⟨bg, ls, Fs, h1, h2⟩ := S.fs f hf
    exact ⟨bg, ls, Fs.dp (hx 13 (by omega)) (o 22 (by omega)) (o 23 (by omega)), h1, h2⟩
theorem RCr.dp {bgf lsf : Nat → Nat} (R : RCr w v m C bgf lsf s t) (hx : ∀ a, a = 13 ∨ a = 21 ∨ a = 30 → s' a = s a) (b22 : t'.1 22 = t.1 22) (b23 : t'.1 23 = t.1 23) : RCr w v m C bgf lsf s' t' := by
  have a21 := hx 21 (by omega)
  have a30 := hx 30 (by omega)
  exact ⟨fun f hf => (R.fs f hf).dp (hx 13 (by omega)) b22 b23, R.e24, by rw [a21]; exact R.col, by rw [a30]; exact R.wd, by rw [a30]; exact R.tb⟩
theorem Ctg.dp {bgf lsf : Nat → Nat} (G : Ctg w m C bgf lsf s t) (a13 : s' 13 = s 13) (b22 : t'.1 22 = t.1 22) (b23 : t'.1 23 = t.1 23) : Ctg w m C bgf lsf s' t' := ⟨fun f hf => (G.fs f hf).dp a13 b22 b23, G.b0, G.bn, G.bC⟩
theorem SyS.dep {c : Nat} {F K L : Nat → Nat} {k : Nat} (S : Sta w v m C nP s t) (H : SyS w v m C c F K L k s t) (hx : ∀ a, a = 6 ∨ a = 36 ∨ a = 40 ∨ a = 42 ∨ a = 48 ∨ a = 50 ∨ a = 52 → s' a = s a) (o : ∀ a, 32 ≤ a → a ≤ 35 → t'.1 a = t.1 a) (z : ∀ j, 20 ≤ j → j ≤ 23 → t'.1 0 j = t.1 0 j) : SyS w v m C c F K L k s' t' := by
  have a6 := hx 6 (by omega)
  have a36 := hx 36 (by omega)
  have a48 := hx 48 (by omega)
  refine ⟨H.cf.cg S (z 22 (by omega) (by omega)) (z 20 (by omega) (by omega)) (z 21 (by omega) (by omega)) (o 32 (by omega) (by omega)) (o 34 (by omega) (by omega)) (fun i _ => by rw [o 33 (by omega) (by omega)]) (by rw [a6]) (by rw [a6]) (by rw [a6]) (hx 40 (by omega)) (hx 42 (by omega)) (fun _ _ => by rw [a36]) (fun _ _ => by rw [o 35 (by omega) (by omega)]), ⟨by rw [o 33 (by omega) (by omega)]; exact H.tp.pk, H.tp.kC, H.tp.fn, by rw [a6]; exact H.tp.nx, H.tp.al⟩, H.win.cut (Nat.le_refl _) a36 (o 35 (by omega) (by omega)) (by rw [z 23 (by omega) (by omega)]; exact H.win.sp), by rw [hx 50 (by omega)]; exact H.fu, by rw [hx 52 (by omega)]; exact H.dp, fun i h1 h2 => (H.lb i h1 h2).cg a48 rfl rfl, by rw [a6]; exact H.d5, by rw [a6]; exact H.t6, H.lk.cg a48 rfl rfl⟩
theorem SyR.dep {c : Nat} {F K L : Nat → Nat} {k : Nat} (S : Sta w v m C nP s t) (H : SyR w v m C c F K L k s t) (hx : ∀ a, a = 7 ∨ a = 36 ∨ a = 44 ∨ a = 46 → s' a = s a) (o : ∀ a, 32 ≤ a → a ≤ 35 → t'.1 a = t.1 a) (z : ∀ j, 20 ≤ j → j ≤ 23 → t'.1 0 j = t.1 0 j) : SyR w v m C c F K L k s' t' := by
  have a7 := hx 7 (by omega)
  have a36 := hx 36 (by omega)
  refine ⟨H.cf.cg S (z 22 (by omega) (by omega)) (z 20 (by omega) (by omega)) (z 21 (by omega) (by omega)) (o 32 (by omega) (by omega)) (o 34 (by omega) (by omega)) (fun i _ => by rw [o 33 (by omega) (by omega)]) (by rw [a7]) (by rw [a7]) (by rw [a7]) (hx 44 (by omega)) (hx 46 (by omega)) (fun _ _ => by rw [a36]) (fun _ _ => by rw [o 35 (by omega) (by omega)]), ⟨by rw [o 33 (by omega) (by omega)]; exact H.tp.pk, H.tp.kC, H.tp.fn, by rw [a7]; exact H.tp.nx, H.tp.al⟩, ?_⟩
  rcases H.win with q | ⟨q1, q2, q, q3, q4, q5⟩
  · exact Or.inl (q.cut (Nat.le_refl _) a36 (o 35 (by omega) (by omega)) (by rw [z 23 (by omega) (by omega)]; exact q.sp))
  · exact Or.inr ⟨q1, q2, q, by rw [z 23 (by omega) (by omega)]; exact q3, q4, by rw [a36, o 35 (by omega) (by omega)]; exact q5⟩
theorem DR.dp {nG me mx p : Nat} (D : DR nG me mx s t p) (hx : ∀ a, a = 5 ∨ a = 34 ∨ a = 38 → s' a = s a) (l : t'.2 = t.2) (o : ∀ a, a = 29 ∨ a = 30 → t'.1 a = t.1 a) (z : ∀ j, j = 10 ∨ j = 18 → t'.1 0 j = t.1 0 j) : DR nG me mx s' t' p :=
  D.cg (hx 34 (by omega)) (hx 38 (by omega)) (hx 5 (by omega)) (o 29 (by omega)) (o 30 (by omega)) (z 18 (by omega)) (z 10 (by omega)) l
/-- calls that change no more than the arguments and the code -/
theorem LD.args {mx : Nat} (H : LD w v m C nP mx s t) (hx : ∀ a, a ≠ 0 → a ≠ 9 → s' a = s a) (h0 : ∀ j, j ≠ 0 → s' 0 j = s 0 j) (l : t'.2 = t.2) (o : ∀ a, a ≠ 0 → a ≠ 31 → t'.1 a = t.1 a) (z : ∀ j, j ≠ 0 → j ≠ 19 → t'.1 0 j = t.1 0 j) (ar : Arg s' t') : LD w v m C nP mx s' t' := by
  refine ⟨by rw [h0 1 (by decide)]; exact H.x1, by rw [z 2 (by decide) (by decide)]; exact H.m2, H.S.dp (fun a q => hx a (by omega) (by omega)) l (fun a q => o a (by omega) (by omega)) (fun j j1 j2 => z j (by omega) (by omega)), H.e24, ?_, ar, ?_, ?_⟩
  · obtain ⟨p, D⟩ := H.D
    exact ⟨p, D.dp (fun a q => hx a (by omega) (by omega)) l (fun a q => o a (by omega) (by omega)) (fun j q => z j (by omega) (by omega))⟩
  · rcases H.cp with ⟨a1, a2, a3⟩ | ⟨a1, a2, ⟨bgf, lsf, a0, a3⟩, a4, a5, a6⟩
    · exact Or.inl ⟨by rw [h0 2 (by decide)]; exact a1, by rw [z 24 (by decide) (by decide)]; exact a2, by rw [z 25 (by decide) (by decide)]; exact a3⟩
    · refine Or.inr ⟨by rw [h0 2 (by decide)]; exact a1, by rw [z 24 (by decide) (by decide)]; exact a2, ⟨bgf, lsf, a0.dp (hx 13 (by decide) (by decide)) (o 22 (by decide) (by decide)) (o 23 (by decide) (by decide)), a3.dp (fun a q => hx a (by omega) (by omega)) (o 22 (by decide) (by decide)) (o 23 (by decide) (by decide))⟩, by rw [z 25 (by decide) (by decide)]; exact a4, by rw [hx 4 (by decide) (by decide)]; exact a5, ?_⟩
      rw [hx 30 (by decide) (by decide), o 36 (by decide) (by decide)]; exact a6
  · rcases H.ac with ⟨a1, a2, a3⟩ | ⟨a1, a2, c, F, K, L, k, a3⟩ | ⟨a1, a4, a2, c, F, K, L, k, a3⟩
    · exact Or.inl ⟨by rw [h0 3 (by decide)]; exact a1, by rw [z 20 (by decide) (by decide)]; exact a2, by rw [h0 4 (by decide), z 21 (by decide) (by decide)]; exact a3⟩
    · exact Or.inr (Or.inl ⟨by rw [h0 3 (by decide)]; exact a1, by rw [h0 4 (by decide)]; exact a2, c, F, K, L, k, a3.dep H.S (fun a q => hx a (by omega) (by omega)) (fun a q1 q2 => o a (by omega) (by omega)) (fun j q1 q2 => z j (by omega) (by omega))⟩)
    · exact Or.inr (Or.inr ⟨by rw [h0 3 (by decide)]; exact a1, by rw [h0 2 (by decide)]; exact a4, by rw [h0 4 (by decide)]; exact a2, c, F, K, L, k, a3.dep H.S (fun a q => hx a (by omega) (by omega)) (fun a q1 q2 => o a (by omega) (by omega)) (fun j q1 q2 => z j (by omega) (by omega))⟩)
theorem NL.code {x : Int32} (H : NL s t) : NL s (stI t 0 0 x) :=
  ⟨H.x1, H.x0, H.x2, H.x3, H.x4, by simp (disch := first | decide | omega) only [stI1, stI2, stp_eq, stp_row, stp_ne, stp_nj ]; exact H.m2, by simp (disch := first | decide | omega) only [stI1, stI2, stp_eq, stp_row, stp_ne, stp_nj ]; exact H.m18, by simp (disch := first | decide | omega) only [stI1, stI2, stp_eq, stp_row, stp_ne, stp_nj ]; exact H.m19, by simp (disch := first | decide | omega) only [stI1, stI2, stp_eq, stp_row, stp_ne, stp_nj ]; exact H.m20, by simp (disch := first | decide | omega) only [stI1, stI2, stp_eq, stp_row, stp_ne, stp_nj ]; exact H.m21, by simp (disch := first | decide | omega) only [stI1, stI2, stp_eq, stp_row, stp_ne, stp_nj ]; exact H.m24, by simp (disch := first | decide | omega) only [stI1, stI2, stp_eq, stp_row, stp_ne, stp_nj ]; exact H.m25⟩
theorem LD.code {mx : Nat} {x : Int32} (H : LD w v m C nP mx s t) : LD w v m C nP mx s (stI t 0 0 x) := by
  refine H.args (fun _ _ _ => rfl) (fun _ _ => rfl) rfl (fun a a1 a2 => by simp (disch := first | decide | omega) only [stI1, stI2, stp_eq, stp_row, stp_ne, stp_nj ]) (fun j j1 j2 => by simp (disch := first | decide | omega) only [stI1, stI2, stp_eq, stp_row, stp_ne, stp_nj ]) ?_
  obtain ⟨n, h1, h2, h3, h4⟩ := H.ar
  exact ⟨n, h1, h2, by simp (disch := first | decide | omega) only [stI1, stI2, stp_eq, stp_row, stp_ne, stp_nj ]; exact h3, by simp (disch := first | decide | omega) only [stI1, stI2, stp_eq, stp_row, stp_ne, stp_nj ]; exact h4⟩
theorem Bs.code {x : Int32} (H : Bs s t) : Bs s (stI t 0 0 x) := ⟨by simp (disch := first | decide | omega) only [stI1, stI2, stp_eq, stp_row, stp_ne, stp_nj ]; exact H.f, by simp (disch := first | decide | omega) only [stI1, stI2, stp_eq, stp_row, stp_ne, stp_nj ]; exact H.b⟩
theorem IV.code {x : Int32} (H : IV s t) : IV s (stI t 0 0 x) := by
  refine ⟨H.1.code, ?_⟩
  rcases H.2 with q | ⟨w, v, m, C, nP, mx, q⟩
  · exact Or.inl q.code
  · exact Or.inr ⟨w, v, m, C, nP, mx, q.code⟩
end DEP
theorem inv0 : IV (stp (fun _ _ => 0) 0 3 (-1)) (fun _ _ => 0, fun _ _ => 0) := by
  refine ⟨⟨⟨0, by decide, rfl, rfl⟩, fun j _ => ⟨0, by decide, rfl, rfl⟩⟩, Or.inl ⟨rfl, rfl, rfl, rfl, rfl, rfl, rfl, rfl, rfl, rfl, rfl, rfl⟩⟩
