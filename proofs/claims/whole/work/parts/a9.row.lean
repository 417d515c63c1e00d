-- rows of code on both sides
def Cd.pls (w : Cd) (P : Nat → Nat) : Cd := (w.op, w.a, w.b, w.ins, w.dp, w.fn, w.en, w.el, P)
def mate (w : Cd) (k : Nat) : Nat := if w.op k = 5 then w.en (w.ins k - 1) - 1 else if w.el k = 0 then w.en k - 1 else w.el k - 1
def xF (o a b : Nat) : Int32 := if 2 ≤ o ∧ o ≤ 4 then (if a = 1 then 127 else 64) else if 39 < o ∧ o < 60 then nI b else nI a
def xS (o a b : Nat) : Int32 := if 39 < o ∧ o < 60 then nI a else nI b
def mF (o a : Nat) : Int64 := if o = 65 then (nI a).toInt64 else lN a
def RwX (w : Cd) (k : Nat) (r : Nat → Int32) : Prop :=
  (r (k * 7 + 0) = nI (w.op k)) ∧
  (r (k * 7 + 1) = xF (w.op k) (w.a k) (w.b k)) ∧
  (r (k * 7 + 2) = xS (w.op k) (w.a k) (w.b k)) ∧
  (r (k * 7 + 3) = nI (mate w k))
theorem RwX.c0 {w : Cd} {k : Nat} {r : Nat → Int32} (h : RwX w k r) : r (k * 7 + 0) = nI (w.op k) := h.1
theorem RwX.c1 {w : Cd} {k : Nat} {r : Nat → Int32} (h : RwX w k r) : r (k * 7 + 1) = xF (w.op k) (w.a k) (w.b k) := h.2.1
theorem RwX.c2 {w : Cd} {k : Nat} {r : Nat → Int32} (h : RwX w k r) : r (k * 7 + 2) = xS (w.op k) (w.a k) (w.b k) := h.2.2.1
theorem RwX.c3 {w : Cd} {k : Nat} {r : Nat → Int32} (h : RwX w k r) : r (k * 7 + 3) = nI (mate w k) := h.2.2.2
def RwM (w : Cd) (k : Nat) (t : SM) : Prop :=
  (t.1 14 k = nI (w.op k)) ∧
  (t.2 15 k = mF (w.op k) (w.a k)) ∧
  (t.2 16 k = lN (w.b k)) ∧
  (t.1 17 k = nI (w.ins k) - 1) ∧
  (t.1 18 k = nI (w.en k) - 1) ∧
  (t.1 19 k = nI (w.el k) - 1)
theorem RwM.c0 {w : Cd} {k : Nat} {t : SM} (h : RwM w k t) : t.1 14 k = nI (w.op k) := h.1
theorem RwM.c1 {w : Cd} {k : Nat} {t : SM} (h : RwM w k t) : t.2 15 k = mF (w.op k) (w.a k) := h.2.1
theorem RwM.c2 {w : Cd} {k : Nat} {t : SM} (h : RwM w k t) : t.2 16 k = lN (w.b k) := h.2.2.1
theorem RwM.c3 {w : Cd} {k : Nat} {t : SM} (h : RwM w k t) : t.1 17 k = nI (w.ins k) - 1 := h.2.2.2.1
theorem RwM.c4 {w : Cd} {k : Nat} {t : SM} (h : RwM w k t) : t.1 18 k = nI (w.en k) - 1 := h.2.2.2.2.1
theorem RwM.c5 {w : Cd} {k : Nat} {t : SM} (h : RwM w k t) : t.1 19 k = nI (w.el k) - 1 := h.2.2.2.2.2
def cost (o a : Nat) : Nat := if o = 14 then a + 2 else 1
def cs (w : Cd) : Nat → Nat
  | 0 => 0
  | k + 1 => cs w k + cost (w.op k) (w.a k)
theorem cs_ge (w : Cd) : ∀ C, C ≤ cs w C := by
  intro C
  induction C with
  | zero => exact Nat.le_refl _
  | succ C ih =>
    show C + 1 ≤ cs w C + cost _ _
    have : 1 ≤ cost (w.op C) (w.a C) := by unfold cost; split <;> omega
    omega
theorem cs_cg {w v : Cd} : ∀ C, (∀ k, k < C → v.op k = w.op k ∧ v.a k = w.a k) → cs v C = cs w C := by
  intro C
  induction C with
  | zero => intro _; rfl
  | succ C ih =>
    intro h
    show cs v C + cost _ _ = cs w C + cost _ _
    rw [ih (fun k hk => h k (by omega)), (h C (by omega)).1, (h C (by omega)).2]
def CR (w : Cd) (C nP : Nat) (s : St) (t : SM) (pl : Nat) : Prop :=
  (s 20 0 = nI C) ∧
  (t.1 0 14 = nI C) ∧
  (∀ k, k < C → RwX w k (s 21)) ∧
  (∀ k, k < C → RwM w k t) ∧
  (∀ q, C * 7 ≤ q → q < 1680 → s 21 q = 0) ∧
  (s 22 0 = nI nP) ∧
  (t.1 0 15 = nI nP) ∧
  (∀ j, j < nP → w.pl j < 2 ^ 32 ∧ s 23 (j * 1 + 0) = nI (w.pl j) ∧ t.2 25 j = lN (w.pl j)) ∧
  (cs w C ≤ pl) ∧
  (nP ≤ cs w C) ∧
  (∀ k, k < C → w.op k = 14 → w.b k + w.a k < nP) ∧
  (WF w C)
theorem CR.x20 {w : Cd} {C nP : Nat} {s : St} {t : SM} {pl : Nat} (h : CR w C nP s t pl) : s 20 0 = nI C := h.1
theorem CR.m14 {w : Cd} {C nP : Nat} {s : St} {t : SM} {pl : Nat} (h : CR w C nP s t pl) : t.1 0 14 = nI C := h.2.1
theorem CR.rx {w : Cd} {C nP : Nat} {s : St} {t : SM} {pl : Nat} (h : CR w C nP s t pl) : ∀ k, k < C → RwX w k (s 21) := h.2.2.1
theorem CR.rm {w : Cd} {C nP : Nat} {s : St} {t : SM} {pl : Nat} (h : CR w C nP s t pl) : ∀ k, k < C → RwM w k t := h.2.2.2.1
theorem CR.z {w : Cd} {C nP : Nat} {s : St} {t : SM} {pl : Nat} (h : CR w C nP s t pl) : ∀ q, C * 7 ≤ q → q < 1680 → s 21 q = 0 := h.2.2.2.2.1
theorem CR.x22 {w : Cd} {C nP : Nat} {s : St} {t : SM} {pl : Nat} (h : CR w C nP s t pl) : s 22 0 = nI nP := h.2.2.2.2.2.1
theorem CR.m15 {w : Cd} {C nP : Nat} {s : St} {t : SM} {pl : Nat} (h : CR w C nP s t pl) : t.1 0 15 = nI nP := h.2.2.2.2.2.2.1
theorem CR.px {w : Cd} {C nP : Nat} {s : St} {t : SM} {pl : Nat} (h : CR w C nP s t pl) : ∀ j, j < nP → w.pl j < 2 ^ 32 ∧ s 23 (j * 1 + 0) = nI (w.pl j) ∧ t.2 25 j = lN (w.pl j) := h.2.2.2.2.2.2.2.1
theorem CR.c1 {w : Cd} {C nP : Nat} {s : St} {t : SM} {pl : Nat} (h : CR w C nP s t pl) : cs w C ≤ pl := h.2.2.2.2.2.2.2.2.1
theorem CR.c2 {w : Cd} {C nP : Nat} {s : St} {t : SM} {pl : Nat} (h : CR w C nP s t pl) : nP ≤ cs w C := h.2.2.2.2.2.2.2.2.2.1
theorem CR.tb {w : Cd} {C nP : Nat} {s : St} {t : SM} {pl : Nat} (h : CR w C nP s t pl) : ∀ k, k < C → w.op k = 14 → w.b k + w.a k < nP := h.2.2.2.2.2.2.2.2.2.2.1
theorem CR.wf {w : Cd} {C nP : Nat} {s : St} {t : SM} {pl : Nat} (h : CR w C nP s t pl) : WF w C := h.2.2.2.2.2.2.2.2.2.2.2
theorem CR.cg {w : Cd} {C nP pl pl' : Nat} {s s' : St} {t t' : SM} (h : CR w C nP s t pl) (hp : pl ≤ pl') (h1 : s' 20 0 = s 20 0) (h2 : s' 21 = s 21) (h3 : s' 22 0 = s 22 0) (h4 : s' 23 = s 23)
    (h5 : t'.1 0 14 = t.1 0 14) (h6 : t'.1 0 15 = t.1 0 15) (h7 : t'.1 14 = t.1 14) (h8 : t'.1 17 = t.1 17) (h9 : t'.1 18 = t.1 18) (h10 : t'.1 19 = t.1 19) (h11 : t'.2 15 = t.2 15) (h12 : t'.2 16 = t.2 16) (h13 : t'.2 25 = t.2 25) : CR w C nP s' t' pl' := by
  refine ⟨h1.trans h.x20, h5.trans h.m14, by rw [h2]; exact h.rx, fun k hk => ?_, by rw [h2]; exact h.z, h3.trans h.x22, h6.trans h.m15, by rw [h4, h13]; exact h.px, by have := h.c1; omega, h.c2, h.tb, h.wf⟩
  have q := h.rm k hk
  exact ⟨by rw [h7]; exact q.c0, by rw [h11]; exact q.c1, by rw [h12]; exact q.c2, by rw [h8]; exact q.c3, by rw [h9]; exact q.c4, by rw [h10]; exact q.c5⟩
def RO (w : Cd) (C : Nat) (s : St) : Prop := s 2 0 = nI (w.dp C + 1) ∧ ∀ j, j ≤ w.dp C → s 25 (w.dp C - j) = nI (ups w.ins j (w.ins C)) - 1
theorem neg1 : (-1 : Int32) = nI 0 - 1 := by decide +kernel
/-- one more row; the blocks that are open stay as they are -/
theorem CR.push {w : Cd} {C nP nP' pl pl' o a b i d f : Nat} {P : Nat → Nat} {s s' : St} {t t' : SM} (h : CR w C nP s t pl) (hC : C < 240) (W : WF (w.push C o a b i d f) (C + 1)) (h5 : o ≠ 5) (hpl : pl + cost o a ≤ pl')
    (x20 : s' 20 0 = nI (C + 1)) (m14 : t'.1 0 14 = nI (C + 1)) (xo : ∀ q, q ≠ C * 7 + 0 → q ≠ C * 7 + 1 → q ≠ C * 7 + 2 → s' 21 q = s 21 q) (x0 : s' 21 (C * 7 + 0) = nI o) (x1 : s' 21 (C * 7 + 1) = xF o a b) (x2 : s' 21 (C * 7 + 2) = xS o a b)
    (mk : ∀ k, k ≠ C → t'.1 14 k = t.1 14 k ∧ t'.2 15 k = t.2 15 k ∧ t'.2 16 k = t.2 16 k ∧ t'.1 17 k = t.1 17 k ∧ t'.1 18 k = t.1 18 k ∧ t'.1 19 k = t.1 19 k) (m0 : t'.1 14 C = nI o) (m1 : t'.2 15 C = mF o a) (m2 : t'.2 16 C = lN b) (m3 : t'.1 17 C = nI (w.ins C) - 1) (m4 : t'.1 18 C = -1) (m5 : t'.1 19 C = -1)
    (x22 : s' 22 0 = nI nP') (m15 : t'.1 0 15 = nI nP') (hnP : nP ≤ nP') (hnP2 : nP' ≤ nP + (cost o a - 1)) (px : ∀ j, j < nP' → P j < 2 ^ 32 ∧ s' 23 (j * 1 + 0) = nI (P j) ∧ t'.2 25 j = lN (P j)) (htb : o = 14 → b + a < nP') :
    CR ((w.push C o a b i d f).pls P) (C + 1) nP' s' t' pl' := by
  have vo : ∀ k, k ≠ C → (w.push C o a b i d f).op k = w.op k := fun k hk => fu_ne _ _ hk
  have voC : (w.push C o a b i d f).op C = o := fu_eq _ _ _
  have va : ∀ k, k ≠ C → (w.push C o a b i d f).a k = w.a k := fun k hk => fu_ne _ _ hk
  have vaC : (w.push C o a b i d f).a C = a := fu_eq _ _ _
  have vb : ∀ k, k ≠ C → (w.push C o a b i d f).b k = w.b k := fun k hk => fu_ne _ _ hk
  have vbC : (w.push C o a b i d f).b C = b := fu_eq _ _ _
  have vi : ∀ k, k ≠ C + 1 → (w.push C o a b i d f).ins k = w.ins k := fun k hk => fu_ne _ _ hk
  have ve : (w.push C o a b i d f).en = w.en := rfl
  have vl : (w.push C o a b i d f).el = w.el := rfl
  have enC : w.en C = 0 := h.wf.en0 C (by omega)
  have elC : w.el C = 0 := by
    by_cases q : w.el C = 0
    · exact q
    · have := (h.wf.el2 C q).1; omega
  have hcs : cs ((w.push C o a b i d f).pls P) (C + 1) = cs w C + cost o a := by
    show cs ((w.push C o a b i d f).pls P) C + cost ((w.push C o a b i d f).op C) ((w.push C o a b i d f).a C) = _
    rw [voC, vaC, cs_cg (w := w) (v := (w.push C o a b i d f).pls P) C (fun k hk => ⟨vo k (by omega), va k (by omega)⟩)]
  have hco : 1 ≤ cost o a := by unfold cost; split <;> omega
  have hm : ∀ k, k < C → mate ((w.push C o a b i d f).pls P) k = mate w k := by
    intro k hk
    unfold mate
    show (if (w.push C o a b i d f).op k = 5 then _ else _) = _
    rw [vo k (by omega)]
    show (if w.op k = 5 then w.en ((w.push C o a b i d f).ins k - 1) - 1 else _) = _
    rw [vi k (by omega)]
    rfl
  refine ⟨x20, m14, fun k hk => ?_, fun k hk => ?_, fun q h1 h2 => ?_, x22, m15, px, ?_, ?_, fun k hk h14 => ?_, ⟨W.i0, W.d0, W.f0, W.ni, W.nd, W.nf, W.i1, W.i2, W.i3, W.d10, W.en1, W.op1, W.en0, W.el1, W.el2, W.ok, W.ch⟩⟩
  · by_cases hkC : k = C
    · subst hkC
      refine ⟨by rw [x0]; exact congrArg nI voC.symm, ?_, ?_, ?_⟩
      · show _ = xF ((w.push k o a b i d f).op k) ((w.push k o a b i d f).a k) ((w.push k o a b i d f).b k)
        rw [voC, vaC, vbC, x1]
      · show _ = xS ((w.push k o a b i d f).op k) ((w.push k o a b i d f).a k) ((w.push k o a b i d f).b k)
        rw [voC, vaC, vbC, x2]
      · rw [xo _ (by omega) (by omega) (by omega), h.z _ (by omega) (by omega)]
        unfold mate
        show _ = nI (if (w.push k o a b i d f).op k = 5 then _ else if w.el k = 0 then w.en k - 1 else w.el k - 1)
        rw [voC, if_neg h5, if_pos elC, enC]
        rfl
    · have q := h.rx k (by omega)
      refine ⟨?_, ?_, ?_, ?_⟩
      · show _ = nI ((w.push C o a b i d f).op k)
        rw [xo _ (by omega) (by omega) (by omega), vo k hkC]; exact q.c0
      · show _ = xF ((w.push C o a b i d f).op k) ((w.push C o a b i d f).a k) ((w.push C o a b i d f).b k)
        rw [xo _ (by omega) (by omega) (by omega), vo k hkC, va k hkC, vb k hkC]; exact q.c1
      · show _ = xS ((w.push C o a b i d f).op k) ((w.push C o a b i d f).a k) ((w.push C o a b i d f).b k)
        rw [xo _ (by omega) (by omega) (by omega), vo k hkC, va k hkC, vb k hkC]; exact q.c2
      · rw [xo _ (by omega) (by omega) (by omega), hm k (by omega)]; exact q.c3
  · by_cases hkC : k = C
    · subst hkC
      refine ⟨?_, ?_, ?_, ?_, ?_, ?_⟩
      · show _ = nI ((w.push k o a b i d f).op k)
        rw [voC, m0]
      · show _ = mF ((w.push k o a b i d f).op k) ((w.push k o a b i d f).a k)
        rw [voC, vaC, m1]
      · show _ = lN ((w.push k o a b i d f).b k)
        rw [vbC, m2]
      · show _ = nI ((w.push k o a b i d f).ins k) - 1
        rw [vi k (by omega), m3]
      · show _ = nI (w.en k) - 1
        rw [enC, m4]; exact neg1
      · show _ = nI (w.el k) - 1
        rw [elC, m5]; exact neg1
    · have q := h.rm k (by omega)
      obtain ⟨n1, n2, n3, n4, n5, n6⟩ := mk k hkC
      refine ⟨?_, ?_, ?_, ?_, ?_, ?_⟩
      · show _ = nI ((w.push C o a b i d f).op k)
        rw [vo k hkC, n1]; exact q.c0
      · show _ = mF ((w.push C o a b i d f).op k) ((w.push C o a b i d f).a k)
        rw [vo k hkC, va k hkC, n2]; exact q.c1
      · show _ = lN ((w.push C o a b i d f).b k)
        rw [vb k hkC, n3]; exact q.c2
      · show _ = nI ((w.push C o a b i d f).ins k) - 1
        rw [vi k (by omega), n4]; exact q.c3
      · rw [n5]; exact q.c4
      · rw [n6]; exact q.c5
  · rw [xo q (by omega) (by omega) (by omega)]; exact h.z q (by omega) h2
  · rw [hcs]; have := h.c1; omega
  · rw [hcs]; have := h.c2; omega
  · by_cases hkC : k = C
    · subst hkC
      have e1 : o = 14 := by rw [← voC]; exact h14
      show (w.push k o a b i d f).b k + (w.push k o a b i d f).a k < nP'
      rw [vbC, vaC]; exact htb e1
    · have e1 : w.op k = 14 := by rw [← vo k hkC]; exact h14
      show (w.push C o a b i d f).b k + (w.push C o a b i d f).a k < nP'
      rw [vb k hkC, va k hkC]
      have := h.tb k (by omega) e1
      omega
theorem CR.turn {w : Cd} {C nP pl B : Nat} {s s' : St} {t t' : SM} (h : CR w C nP s t pl) (hC : C < 240) (hB : w.ins C = B + 1) (h4 : w.op B = 4) (h0 : w.el B = 0)
    (x20 : s' 20 0 = nI (C + 1)) (m14 : t'.1 0 14 = nI (C + 1)) (xo : ∀ q, q ≠ C * 7 + 0 → q ≠ B * 7 + 3 → s' 21 q = s 21 q) (x0 : s' 21 (C * 7 + 0) = nI 5) (xB : s' 21 (B * 7 + 3) = nI C)
    (mk : ∀ k, k ≠ C → t'.1 14 k = t.1 14 k ∧ t'.2 15 k = t.2 15 k ∧ t'.2 16 k = t.2 16 k ∧ t'.1 17 k = t.1 17 k ∧ t'.1 18 k = t.1 18 k) (mk2 : ∀ k, k ≠ C → k ≠ B → t'.1 19 k = t.1 19 k) (mB : t'.1 19 B = nI C) (m0 : t'.1 14 C = nI 5) (m1 : t'.2 15 C = 0) (m2 : t'.2 16 C = 0) (m3 : t'.1 17 C = nI (w.ins C) - 1) (m4 : t'.1 18 C = -1) (m5 : t'.1 19 C = -1)
    (x22 : s' 22 0 = s 22 0) (x23 : s' 23 = s 23) (m15 : t'.1 0 15 = t.1 0 15) (m25 : t'.2 25 = t.2 25) : CR (w.turn C B) (C + 1) nP s' t' (pl + 1) := by
  have hBC := h.wf.i1 C (Nat.le_refl _)
  have hen := h.wf.ch 0 B hB
  have vo : ∀ k, k ≠ C → (w.turn C B).op k = w.op k := fun k hk => fu_ne _ _ hk
  have voC : (w.turn C B).op C = 5 := fu_eq _ _ _
  have va : ∀ k, k ≠ C → (w.turn C B).a k = w.a k := fun k hk => fu_ne _ _ hk
  have vaC : (w.turn C B).a C = 0 := fu_eq _ _ _
  have vb : ∀ k, k ≠ C → (w.turn C B).b k = w.b k := fun k hk => fu_ne _ _ hk
  have vbC : (w.turn C B).b C = 0 := fu_eq _ _ _
  have vi : ∀ k, k ≠ C + 1 → (w.turn C B).ins k = w.ins k := fun k hk => fu_ne _ _ hk
  have ve : (w.turn C B).en = w.en := rfl
  have vl : ∀ k, k ≠ B → (w.turn C B).el k = w.el k := fun k hk => fu_ne _ _ hk
  have vlB : (w.turn C B).el B = C + 1 := fu_eq _ _ _
  have enC : w.en C = 0 := h.wf.en0 C (by omega)
  have elC : w.el C = 0 := by
    by_cases q : w.el C = 0
    · exact q
    · have := (h.wf.el2 C q).1; omega
  have hcs : cs (w.turn C B) (C + 1) = cs w C + 1 := by
    show cs (w.turn C B) C + cost ((w.turn C B).op C) ((w.turn C B).a C) = _
    rw [voC, vaC, cs_cg (w := w) (v := w.turn C B) C (fun k hk => ⟨vo k (by omega), va k (by omega)⟩)]
    rfl
  refine ⟨x20, m14, fun k hk => ?_, fun k hk => ?_, fun q h1 h2 => ?_, x22.trans h.x22, m15.trans h.m15, by rw [x23, m25]; exact h.px, ?_, ?_, fun k hk h14 => ?_, h.wf.turn hB h4 h0⟩
  · by_cases hkC : k = C
    · subst hkC
      refine ⟨by rw [x0, voC], ?_, ?_, ?_⟩
      · rw [voC, vaC, vbC, xo _ (by omega) (by omega), h.z _ (by omega) (by omega)]; rfl
      · rw [voC, vaC, vbC, xo _ (by omega) (by omega), h.z _ (by omega) (by omega)]; rfl
      · rw [xo _ (by omega) (by omega), h.z _ (by omega) (by omega)]
        unfold mate
        rw [voC, if_pos rfl, vi k (by omega), hB, Nat.add_sub_cancel, ve, hen]
        rfl
    · have q := h.rx k (by omega)
      refine ⟨?_, ?_, ?_, ?_⟩
      · rw [xo _ (by omega) (by omega), vo k hkC]; exact q.c0
      · rw [xo _ (by omega) (by omega), vo k hkC, va k hkC, vb k hkC]; exact q.c1
      · rw [xo _ (by omega) (by omega), vo k hkC, va k hkC, vb k hkC]; exact q.c2
      · unfold mate
        rw [vo k hkC, vi k (by omega), ve]
        by_cases hkB : k = B
        · subst hkB
          rw [xB, vlB, h4, if_neg (by decide), if_neg (by omega), Nat.add_sub_cancel]
        · rw [vl k hkB, xo _ (by omega) (by omega)]; exact q.c3
  · by_cases hkC : k = C
    · subst hkC
      refine ⟨by rw [voC, m0], by rw [voC, vaC, m1]; rfl, by rw [vbC, m2]; rfl, by rw [vi k (by omega), m3], ?_, ?_⟩
      · rw [ve, enC, m4]; exact neg1
      · rw [vl k (by omega), elC, m5]; exact neg1
    · have q := h.rm k (by omega)
      obtain ⟨n1, n2, n3, n4, n5⟩ := mk k hkC
      refine ⟨by rw [vo k hkC, n1]; exact q.c0, by rw [vo k hkC, va k hkC, n2]; exact q.c1, by rw [vb k hkC, n3]; exact q.c2, by rw [vi k (by omega), n4]; exact q.c3, by rw [ve, n5]; exact q.c4, ?_⟩
      by_cases hkB : k = B
      · subst hkB
        rw [mB, vlB, nI_pred]
      · rw [vl k hkB, mk2 k hkC hkB]; exact q.c5
  · rw [xo q (by omega) (by omega)]; exact h.z q (by omega) h2
  · rw [hcs]; have := h.c1; omega
  · rw [hcs]; have := h.c2; omega
  · by_cases hkC : k = C
    · subst hkC; rw [voC] at h14; omega
    · rw [vo k hkC] at h14
      rw [vb k hkC, va k hkC]; exact h.tb k (by omega) h14
theorem CR.shut {w : Cd} {C nP pl B : Nat} {s s' : St} {t t' : SM} (h : CR w C nP s t pl) (hC : C < 240) (hB : w.ins C = B + 1) {m : Nat} (hm : m = if w.el B = 0 then B else w.el B - 1)
    (x20 : s' 20 0 = nI (C + 1)) (m14 : t'.1 0 14 = nI (C + 1)) (xo : ∀ q, q ≠ C * 7 + 0 → q ≠ m * 7 + 3 → s' 21 q = s 21 q) (x0 : s' 21 (C * 7 + 0) = nI 11) (xB : s' 21 (m * 7 + 3) = nI C)
    (mk : ∀ k, k ≠ C → t'.1 14 k = t.1 14 k ∧ t'.2 15 k = t.2 15 k ∧ t'.2 16 k = t.2 16 k ∧ t'.1 17 k = t.1 17 k ∧ t'.1 19 k = t.1 19 k) (mk2 : ∀ k, k ≠ C → k ≠ B → t'.1 18 k = t.1 18 k) (mB : t'.1 18 B = nI C) (m0 : t'.1 14 C = nI 11) (m1 : t'.2 15 C = 0) (m2 : t'.2 16 C = 0) (m3 : t'.1 17 C = nI (w.ins C) - 1) (m4 : t'.1 18 C = -1) (m5 : t'.1 19 C = -1)
    (x22 : s' 22 0 = s 22 0) (x23 : s' 23 = s 23) (m15 : t'.1 0 15 = t.1 0 15) (m25 : t'.2 25 = t.2 25) : CR (w.shut C B) (C + 1) nP s' t' (pl + 1) := by
  have hBC := h.wf.i1 C (Nat.le_refl _)
  have hen := h.wf.ch 0 B hB
  have hmC : m < C := by
    rw [hm]
    split
    · omega
    · obtain ⟨-, -, e, q3, -, q5, -⟩ := h.wf.el2 B (by assumption); omega
  have vo : ∀ k, k ≠ C → (w.shut C B).op k = w.op k := fun k hk => fu_ne _ _ hk
  have voC : (w.shut C B).op C = 11 := fu_eq _ _ _
  have va : ∀ k, k ≠ C → (w.shut C B).a k = w.a k := fun k hk => fu_ne _ _ hk
  have vaC : (w.shut C B).a C = 0 := fu_eq _ _ _
  have vb : ∀ k, k ≠ C → (w.shut C B).b k = w.b k := fun k hk => fu_ne _ _ hk
  have vbC : (w.shut C B).b C = 0 := fu_eq _ _ _
  have vi : ∀ k, k ≠ C + 1 → (w.shut C B).ins k = w.ins k := fun k hk => fu_ne _ _ hk
  have vl : (w.shut C B).el = w.el := rfl
  have ve : ∀ k, k ≠ B → (w.shut C B).en k = w.en k := fun k hk => fu_ne _ _ hk
  have veB : (w.shut C B).en B = C + 1 := fu_eq _ _ _
  have enC : w.en C = 0 := h.wf.en0 C (by omega)
  have elC : w.el C = 0 := by
    by_cases q : w.el C = 0
    · exact q
    · have := (h.wf.el2 C q).1; omega
  have hcs : cs (w.shut C B) (C + 1) = cs w C + 1 := by
    show cs (w.shut C B) C + cost ((w.shut C B).op C) ((w.shut C B).a C) = _
    rw [voC, vaC, cs_cg (w := w) (v := w.shut C B) C (fun k hk => ⟨vo k (by omega), va k (by omega)⟩)]
    rfl
  refine ⟨x20, m14, fun k hk => ?_, fun k hk => ?_, fun q h1 h2 => ?_, x22.trans h.x22, m15.trans h.m15, by rw [x23, m25]; exact h.px, ?_, ?_, fun k hk h14 => ?_, h.wf.shut hB⟩
  · by_cases hkC : k = C
    · subst hkC
      refine ⟨by rw [x0, voC], ?_, ?_, ?_⟩
      · rw [voC, vaC, vbC, xo _ (by omega) (by omega), h.z _ (by omega) (by omega)]; rfl
      · rw [voC, vaC, vbC, xo _ (by omega) (by omega), h.z _ (by omega) (by omega)]; rfl
      · rw [xo _ (by omega) (by omega), h.z _ (by omega) (by omega)]
        unfold mate
        rw [voC, if_neg (by decide), vl, elC, if_pos rfl, ve k (by omega), enC]
        rfl
    · have q := h.rx k (by omega)
      refine ⟨?_, ?_, ?_, ?_⟩
      · rw [xo _ (by omega) (by omega), vo k hkC]; exact q.c0
      · rw [xo _ (by omega) (by omega), vo k hkC, va k hkC, vb k hkC]; exact q.c1
      · rw [xo _ (by omega) (by omega), vo k hkC, va k hkC, vb k hkC]; exact q.c2
      · unfold mate
        rw [vo k hkC, vi k (by omega), vl]
        have hc3 := q.c3
        unfold mate at hc3
        by_cases h5 : w.op k = 5
        · rw [if_pos h5] at hc3 ⊢
          obtain ⟨q1, q2, q3⟩ := h.wf.el1 k (by omega) h5
          by_cases hkB : w.ins k - 1 = B
          · rw [hkB] at q3
            rw [hkB, veB, Nat.add_sub_cancel]
            rw [if_neg (by omega), q3, Nat.add_sub_cancel] at hm
            rw [← hm]; exact xB
          · rw [ve _ hkB, xo _ (by omega) ?_]
            · exact hc3
            · intro q
              have : k = m := by omega
              by_cases h0 : w.el B = 0
              · rw [if_pos h0] at hm
                have := h.wf.i2 C (Nat.le_refl _) (by omega)
                rw [hB, Nat.add_sub_cancel, ← hm, ← ‹k = m›] at this
                omega
              · rw [if_neg h0] at hm
                obtain ⟨-, -, e, q3', -, -, -, q7, -⟩ := h.wf.el2 B h0
                have : k = e := by omega
                rw [this] at hkB
                omega
        · rw [if_neg h5] at hc3 ⊢
          by_cases h0 : w.el k = 0
          · rw [if_pos h0] at hc3 ⊢
            by_cases hkB : k = B
            · subst hkB
              rw [if_pos h0] at hm
              rw [veB, Nat.add_sub_cancel, ← xB, hm]
            · rw [ve k hkB, xo _ (by omega) ?_]
              · exact hc3
              · intro q
                have hkm : k = m := by omega
                by_cases h0' : w.el B = 0
                · rw [if_pos h0'] at hm; omega
                · rw [if_neg h0'] at hm
                  obtain ⟨-, -, e, q3', -, -, q6, -⟩ := h.wf.el2 B h0'
                  have : k = e := by omega
                  rw [this] at h5
                  exact h5 q6
          · rw [if_neg h0] at hc3 ⊢
            rw [xo _ (by omega) ?_]
            · exact hc3
            · intro q
              have hkm : k = m := by omega
              by_cases h0' : w.el B = 0
              · rw [if_pos h0'] at hm; rw [hkm, hm] at h0; exact h0 h0'
              · rw [if_neg h0'] at hm
                obtain ⟨-, -, e, q3', -, -, q6, -⟩ := h.wf.el2 B h0'
                have : k = e := by omega
                rw [this] at h5
                exact h5 q6
  · by_cases hkC : k = C
    · subst hkC
      refine ⟨by rw [voC, m0], by rw [voC, vaC, m1]; rfl, by rw [vbC, m2]; rfl, by rw [vi k (by omega), m3], ?_, ?_⟩
      · rw [ve k (by omega), enC, m4]; exact neg1
      · rw [vl, elC, m5]; exact neg1
    · have q := h.rm k (by omega)
      obtain ⟨n1, n2, n3, n4, n5⟩ := mk k hkC
      refine ⟨by rw [vo k hkC, n1]; exact q.c0, by rw [vo k hkC, va k hkC, n2]; exact q.c1, by rw [vb k hkC, n3]; exact q.c2, by rw [vi k (by omega), n4]; exact q.c3, ?_, by rw [vl, n5]; exact q.c5⟩
      by_cases hkB : k = B
      · subst hkB
        rw [mB, veB, nI_pred]
      · rw [ve k hkB, mk2 k hkC hkB]; exact q.c4
  · rw [xo q (by omega) (by omega)]; exact h.z q (by omega) h2
  · rw [hcs]; have := h.c1; omega
  · rw [hcs]; have := h.c2; omega
  · by_cases hkC : k = C
    · subst hkC; rw [voC] at h14; omega
    · rw [vo k hkC] at h14
      rw [vb k hkC, va k hkC]; exact h.tb k (by omega) h14
