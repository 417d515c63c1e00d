-- validation: heights, and which rows can be come to
abbrev Hv : Type := (Nat → Nat) × (Nat → Nat) × (Nat → Nat) × (Nat → Nat)
def Hv.hi (v : Hv) : Nat → Nat := v.1
def Hv.lo (v : Hv) : Nat → Nat := v.2.1
def Hv.ns (v : Hv) : Nat → Nat := v.2.2.1
def Hv.bb (v : Hv) : Nat → Nat := v.2.2.2
def Hv.set (v : Hv) (k h l n : Nat) : Hv := (fu v.hi k h, fu v.lo k l, fu v.ns k n, v.bb)
def Hv.setb (v : Hv) (k b : Nat) : Hv := (v.hi, v.lo, v.ns, fu v.bb k b)
/-- the height under a block -/
def bs (_ : Cd) (v : Hv) (c : Nat) : Nat := if c = 0 then 0 else v.bb (c - 1)
def gv (w : Cd) (rs c : Nat) : Nat := if c = 0 then rs else w.a (c - 1)
def tk (w : Cd) (rs c : Nat) : Nat := if c = 0 then rs else if w.op (c - 1) = 3 then 0 else w.a (c - 1)
def ob (w : Cd) (k c : Nat) : Nat := if c = 0 then 2 else if w.el (c - 1) ≠ 0 ∧ w.el (c - 1) ≤ k then 5 else w.op (c - 1)
def et (v : Hv) (c : Nat) : Nat := if c = 0 then 1 else 1 - v.lo (c - 1)
/-- what leads away -/
def lead (o : Nat) : Prop := o = 0 ∨ o = 12 ∨ o = 14 ∨ o = 15
def tks (o : Nat) : Nat := if o = 27 then 3 else if o = 26 ∨ o = 33 ∨ o = 34 ∨ o = 36 ∨ o = 64 ∨ o = 69 ∨ (39 < o ∧ o < 48) ∨ (102 < o ∧ o < 106) then 1 else if (53 < o ∧ o < 60) ∨ (69 < o ∧ o < 80) ∨ 105 < o then 2 else 0
def gvs (o : Nat) : Nat := if o = 26 ∨ o = 33 ∨ o = 36 ∨ (53 < o ∧ o < 60) then 0 else 1
/-- the module around the code: parameters, results, locals, functions, globals (that change), a memory -/
abbrev Md : Type := (Nat → Nat) × (Nat → Nat) × (Nat → Nat) × Nat × Nat × (Nat → Nat) × Nat
def Md.par (m : Md) : Nat → Nat := m.1
def Md.res (m : Md) : Nat → Nat := m.2.1
def Md.loc (m : Md) : Nat → Nat := m.2.2.1
def Md.nF (m : Md) : Nat := m.2.2.2.1
def Md.nG (m : Md) : Nat := m.2.2.2.2.1
def Md.ch (m : Md) : Nat → Nat := m.2.2.2.2.2.1
def Md.me (m : Md) : Nat := m.2.2.2.2.2.2
/-- a row that can be come to is right -/
def WT (w : Cd) (v : Hv) (m : Md) (k : Nat) : Prop :=
  (w.op k = 1 → v.hi (k + 1) = v.hi k) ∧
  (w.op k = 2 ∨ w.op k = 3 → v.hi (k + 1) = v.hi k ∧ v.bb k = v.hi k) ∧
  (w.op k = 4 → 1 ≤ v.hi k ∧ v.hi (k + 1) = v.hi k - 1 ∧ v.bb k = v.hi k - 1) ∧
  (w.op k = 5 ∨ w.op k = 11 → v.hi k = bs w v (w.ins k) + gv w (m.res (w.fn k)) (w.ins k)) ∧
  (w.op k = 12 → w.a k ≤ w.dp k ∧ bs w v (w.ins k) + tk w (m.res (w.fn k)) (ups w.ins (w.a k) (w.ins k)) ≤ v.hi k) ∧
  (w.op k = 13 → w.a k ≤ w.dp k ∧ bs w v (w.ins k) + tk w (m.res (w.fn k)) (ups w.ins (w.a k) (w.ins k)) + 1 ≤ v.hi k ∧ v.hi (k + 1) = v.hi k - 1) ∧
  (w.op k = 14 → ∀ i, i ≤ w.a k → w.pl (w.b k + i) ≤ w.dp k ∧ bs w v (w.ins k) + tk w (m.res (w.fn k)) (ups w.ins (w.pl (w.b k + i)) (w.ins k)) + 1 ≤ v.hi k) ∧
  (w.op k = 15 → bs w v (w.ins k) + m.res (w.fn k) ≤ v.hi k) ∧
  (w.op k = 16 → w.a k < m.nF ∧ bs w v (w.ins k) + m.par (w.a k) ≤ v.hi k ∧ v.hi (k + 1) = v.hi k - m.par (w.a k) + m.res (w.a k)) ∧
  (16 < w.op k → bs w v (w.ins k) + tks (w.op k) ≤ v.hi k ∧ v.hi (k + 1) = v.hi k - tks (w.op k) + gvs (w.op k)) ∧
  (31 < w.op k ∧ w.op k < 35 → w.a k < m.loc (w.fn k)) ∧
  (w.op k = 35 ∨ w.op k = 36 → w.a k < m.nG) ∧
  (w.op k = 36 → m.ch (w.a k) = 1) ∧
  (39 < w.op k ∧ w.op k < 65 → m.me = 1)
theorem WT.t1 {w : Cd} {v : Hv} {m : Md} {k : Nat} (q0_ : WT w v m k) : w.op k = 1 → v.hi (k + 1) = v.hi k := q0_.1
theorem WT.t2 {w : Cd} {v : Hv} {m : Md} {k : Nat} (q0_ : WT w v m k) : w.op k = 2 ∨ w.op k = 3 → v.hi (k + 1) = v.hi k ∧ v.bb k = v.hi k := q0_.2.1
theorem WT.t4 {w : Cd} {v : Hv} {m : Md} {k : Nat} (q0_ : WT w v m k) : w.op k = 4 → 1 ≤ v.hi k ∧ v.hi (k + 1) = v.hi k - 1 ∧ v.bb k = v.hi k - 1 := q0_.2.2.1
theorem WT.t5 {w : Cd} {v : Hv} {m : Md} {k : Nat} (q0_ : WT w v m k) : w.op k = 5 ∨ w.op k = 11 → v.hi k = bs w v (w.ins k) + gv w (m.res (w.fn k)) (w.ins k) := q0_.2.2.2.1
theorem WT.t12 {w : Cd} {v : Hv} {m : Md} {k : Nat} (q0_ : WT w v m k) : w.op k = 12 → w.a k ≤ w.dp k ∧ bs w v (w.ins k) + tk w (m.res (w.fn k)) (ups w.ins (w.a k) (w.ins k)) ≤ v.hi k := q0_.2.2.2.2.1
theorem WT.t13 {w : Cd} {v : Hv} {m : Md} {k : Nat} (q0_ : WT w v m k) : w.op k = 13 → w.a k ≤ w.dp k ∧ bs w v (w.ins k) + tk w (m.res (w.fn k)) (ups w.ins (w.a k) (w.ins k)) + 1 ≤ v.hi k ∧ v.hi (k + 1) = v.hi k - 1 := q0_.2.2.2.2.2.1
theorem WT.t14 {w : Cd} {v : Hv} {m : Md} {k : Nat} (q0_ : WT w v m k) : w.op k = 14 → ∀ i, i ≤ w.a k → w.pl (w.b k + i) ≤ w.dp k ∧ bs w v (w.ins k) + tk w (m.res (w.fn k)) (ups w.ins (w.pl (w.b k + i)) (w.ins k)) + 1 ≤ v.hi k := q0_.2.2.2.2.2.2.1
theorem WT.t15 {w : Cd} {v : Hv} {m : Md} {k : Nat} (q0_ : WT w v m k) : w.op k = 15 → bs w v (w.ins k) + m.res (w.fn k) ≤ v.hi k := q0_.2.2.2.2.2.2.2.1
theorem WT.t16 {w : Cd} {v : Hv} {m : Md} {k : Nat} (q0_ : WT w v m k) : w.op k = 16 → w.a k < m.nF ∧ bs w v (w.ins k) + m.par (w.a k) ≤ v.hi k ∧ v.hi (k + 1) = v.hi k - m.par (w.a k) + m.res (w.a k) := q0_.2.2.2.2.2.2.2.2.1
theorem WT.pn {w : Cd} {v : Hv} {m : Md} {k : Nat} (q0_ : WT w v m k) : 16 < w.op k → bs w v (w.ins k) + tks (w.op k) ≤ v.hi k ∧ v.hi (k + 1) = v.hi k - tks (w.op k) + gvs (w.op k) := q0_.2.2.2.2.2.2.2.2.2.1
theorem WT.pl {w : Cd} {v : Hv} {m : Md} {k : Nat} (q0_ : WT w v m k) : 31 < w.op k ∧ w.op k < 35 → w.a k < m.loc (w.fn k) := q0_.2.2.2.2.2.2.2.2.2.2.1
theorem WT.pg {w : Cd} {v : Hv} {m : Md} {k : Nat} (q0_ : WT w v m k) : w.op k = 35 ∨ w.op k = 36 → w.a k < m.nG := q0_.2.2.2.2.2.2.2.2.2.2.2.1
theorem WT.pc {w : Cd} {v : Hv} {m : Md} {k : Nat} (q0_ : WT w v m k) : w.op k = 36 → m.ch (w.a k) = 1 := q0_.2.2.2.2.2.2.2.2.2.2.2.2.1
theorem WT.pm {w : Cd} {v : Hv} {m : Md} {k : Nat} (q0_ : WT w v m k) : 39 < w.op k ∧ w.op k < 65 → m.me = 1 := q0_.2.2.2.2.2.2.2.2.2.2.2.2.2
/-- what is kept of a row -/
def SR (w : Cd) (v : Hv) (m : Md) (k : Nat) : Prop :=
  (v.hi k ≤ 16) ∧
  (v.lo k ≤ 1) ∧
  (v.lo k = 0 → (lead (w.op k) → v.lo (k + 1) = 1 ∧ v.ns (k + 1) = 0) ∧ (¬ lead (w.op k) → v.lo (k + 1) = 0)) ∧
  (v.lo k = 1 → (2 ≤ w.op k ∧ w.op k ≤ 4 → v.lo (k + 1) = 1 ∧ v.ns (k + 1) = v.ns k + 1) ∧ (w.op k = 5 ∨ w.op k = 11 → v.ns k = 0 → v.lo (k + 1) = 0) ∧ (w.op k = 11 → v.ns k ≠ 0 → v.lo (k + 1) = 1 ∧ v.ns (k + 1) = v.ns k - 1) ∧ (¬ (2 ≤ w.op k ∧ w.op k ≤ 4) → w.op k ≠ 11 → ¬ (w.op k = 5 ∧ v.ns k = 0) → v.lo (k + 1) = 1 ∧ v.ns (k + 1) = v.ns k)) ∧
  (w.ins k ≠ 0 → v.lo k = 0 → v.lo (w.ins k - 1) = 0) ∧
  (w.op k = 11 → w.ins k ≠ 0 → v.hi (k + 1) = bs w v (w.ins k) + w.a (w.ins k - 1) ∧ (v.lo (w.ins k - 1) = 0 → v.lo (k + 1) = 0) ∧ (w.op (w.ins k - 1) = 4 → w.el (w.ins k - 1) = 0 → w.a (w.ins k - 1) = 0)) ∧
  (w.op k = 5 → v.hi (k + 1) = bs w v (w.ins k) ∧ (v.lo (w.ins k - 1) = 0 → v.lo (k + 1) = 0)) ∧
  (w.ins k ≠ 0 → bs w v (w.ins (w.ins k - 1)) ≤ bs w v (w.ins k)) ∧
  (bs w v (w.ins k) ≤ v.hi k) ∧
  (v.lo k = 0 → WT w v m k)
theorem SR.h16 {w : Cd} {v : Hv} {m : Md} {k : Nat} (q0_ : SR w v m k) : v.hi k ≤ 16 := q0_.1
theorem SR.l1 {w : Cd} {v : Hv} {m : Md} {k : Nat} (q0_ : SR w v m k) : v.lo k ≤ 1 := q0_.2.1
theorem SR.r0 {w : Cd} {v : Hv} {m : Md} {k : Nat} (q0_ : SR w v m k) : v.lo k = 0 → (lead (w.op k) → v.lo (k + 1) = 1 ∧ v.ns (k + 1) = 0) ∧ (¬ lead (w.op k) → v.lo (k + 1) = 0) := q0_.2.2.1
theorem SR.r1 {w : Cd} {v : Hv} {m : Md} {k : Nat} (q0_ : SR w v m k) : v.lo k = 1 → (2 ≤ w.op k ∧ w.op k ≤ 4 → v.lo (k + 1) = 1 ∧ v.ns (k + 1) = v.ns k + 1) ∧ (w.op k = 5 ∨ w.op k = 11 → v.ns k = 0 → v.lo (k + 1) = 0) ∧ (w.op k = 11 → v.ns k ≠ 0 → v.lo (k + 1) = 1 ∧ v.ns (k + 1) = v.ns k - 1) ∧ (¬ (2 ≤ w.op k ∧ w.op k ≤ 4) → w.op k ≠ 11 → ¬ (w.op k = 5 ∧ v.ns k = 0) → v.lo (k + 1) = 1 ∧ v.ns (k + 1) = v.ns k) := q0_.2.2.2.1
theorem SR.ul {w : Cd} {v : Hv} {m : Md} {k : Nat} (q0_ : SR w v m k) : w.ins k ≠ 0 → v.lo k = 0 → v.lo (w.ins k - 1) = 0 := q0_.2.2.2.2.1
theorem SR.e11 {w : Cd} {v : Hv} {m : Md} {k : Nat} (q0_ : SR w v m k) : w.op k = 11 → w.ins k ≠ 0 → v.hi (k + 1) = bs w v (w.ins k) + w.a (w.ins k - 1) ∧ (v.lo (w.ins k - 1) = 0 → v.lo (k + 1) = 0) ∧ (w.op (w.ins k - 1) = 4 → w.el (w.ins k - 1) = 0 → w.a (w.ins k - 1) = 0) := q0_.2.2.2.2.2.1
theorem SR.e5 {w : Cd} {v : Hv} {m : Md} {k : Nat} (q0_ : SR w v m k) : w.op k = 5 → v.hi (k + 1) = bs w v (w.ins k) ∧ (v.lo (w.ins k - 1) = 0 → v.lo (k + 1) = 0) := q0_.2.2.2.2.2.2.1
theorem SR.mo {w : Cd} {v : Hv} {m : Md} {k : Nat} (q0_ : SR w v m k) : w.ins k ≠ 0 → bs w v (w.ins (w.ins k - 1)) ≤ bs w v (w.ins k) := q0_.2.2.2.2.2.2.2.1
theorem SR.bh {w : Cd} {v : Hv} {m : Md} {k : Nat} (q0_ : SR w v m k) : bs w v (w.ins k) ≤ v.hi k := q0_.2.2.2.2.2.2.2.2.1
theorem SR.wt {w : Cd} {v : Hv} {m : Md} {k : Nat} (q0_ : SR w v m k) : v.lo k = 0 → WT w v m k := q0_.2.2.2.2.2.2.2.2.2
theorem bs_cg {w : Cd} {v v' : Hv} {K c : Nat} (h : ∀ i, i < K → v'.bb i = v.bb i) (hc : c ≤ K) : bs w v' c = bs w v c := by
  unfold bs
  split
  · rfl
  · rw [h (c - 1) (by omega)]
theorem WT.cg {w : Cd} {v v' : Hv} {m : Md} {k K : Nat} (h : ∀ i, i ≤ K → v'.hi i = v.hi i) (hb : ∀ i, i < K → v'.bb i = v.bb i) (hk : k < K) (hi : w.ins k ≤ k) (W : WT w v m k) : WT w v' m k := by
  have a := h k (by omega)
  have b := h (k + 1) (by omega)
  have b2 := hb k hk
  have c := bs_cg (w := w) (v := v) (v' := v') (K := K) (c := w.ins k) hb (by omega)
  refine ⟨?_, ?_, ?_, ?_, ?_, ?_, ?_, ?_, ?_, ?_, W.pl, W.pg, W.pc, W.pm⟩
  · rw [a, b]; exact W.t1
  · rw [a, b, b2]; exact W.t2
  · rw [a, b, b2]; exact W.t4
  · rw [a, c]; exact W.t5
  · rw [a, c]; exact W.t12
  · rw [a, b, c]; exact W.t13
  · rw [a, c]; exact W.t14
  · rw [a, c]; exact W.t15
  · rw [a, b, c]; exact W.t16
  · rw [a, b, c]; exact W.pn
theorem SR.cg {w : Cd} {v v' : Hv} {m : Md} {k K : Nat} (h : ∀ i, i ≤ K → v'.hi i = v.hi i) (hl : ∀ i, i ≤ K → v'.lo i = v.lo i) (hn : ∀ i, i ≤ K → v'.ns i = v.ns i) (hb : ∀ i, i < K → v'.bb i = v.bb i) (hk : k < K) (hi : ∀ i, i ≤ k → w.ins i ≤ i) (S : SR w v m k) : SR w v' m k := by
  have i1 := hi k (Nat.le_refl _)
  have i2 := hi (w.ins k - 1) (by omega)
  have a := h k (by omega)
  have b := h (k + 1) (by omega)
  have c := bs_cg (w := w) (v := v) (v' := v') (K := K) (c := w.ins k) hb (by omega)
  have c2 := bs_cg (w := w) (v := v) (v' := v') (K := K) (c := w.ins (w.ins k - 1)) hb (by omega)
  have l := hl k (by omega)
  have l2 := hl (k + 1) (by omega)
  have l3 := hl (w.ins k - 1) (by omega)
  have n := hn k (by omega)
  have n2 := hn (k + 1) (by omega)
  refine ⟨?_, ?_, ?_, ?_, ?_, ?_, ?_, ?_, ?_, ?_⟩
  · rw [a]; exact S.h16
  · rw [l]; exact S.l1
  · rw [l, l2, n2]; exact S.r0
  · rw [l, l2, n2, n]; exact S.r1
  · rw [l, l3]; exact S.ul
  · rw [b, c, l3, l2]; exact S.e11
  · rw [b, c, l3, l2]; exact S.e5
  · rw [c, c2]; exact S.mo
  · rw [c, a]; exact S.bh
  · rw [l]; exact fun q => (S.wt q).cg h hb hk i1
def Lv (w : Cd) (v : Hv) (rs k c lv dd : Nat) (s : St) (t : SM) : Prop :=
  (s 28 (lv * 6 + 0) = nI (bs w v c)) ∧
  (s 28 (lv * 6 + 1) = nI (gv w rs c)) ∧
  (s 28 (lv * 6 + 2) = nI (tk w rs c)) ∧
  (s 28 (lv * 6 + 3) = nI (ob w k c)) ∧
  (s 28 (lv * 6 + 4) = nI dd) ∧
  (s 28 (lv * 6 + 5) = nI (et v c)) ∧
  (t.1 26 lv = nI c - 1) ∧
  (t.1 27 lv = nI (bs w v c)) ∧
  (t.1 28 lv = nI dd) ∧
  (dd ≤ 1)
theorem Lv.x0 {w : Cd} {v : Hv} {rs k c lv dd : Nat} {s : St} {t : SM} (q0_ : Lv w v rs k c lv dd s t) : s 28 (lv * 6 + 0) = nI (bs w v c) := q0_.1
theorem Lv.x1 {w : Cd} {v : Hv} {rs k c lv dd : Nat} {s : St} {t : SM} (q0_ : Lv w v rs k c lv dd s t) : s 28 (lv * 6 + 1) = nI (gv w rs c) := q0_.2.1
theorem Lv.x2 {w : Cd} {v : Hv} {rs k c lv dd : Nat} {s : St} {t : SM} (q0_ : Lv w v rs k c lv dd s t) : s 28 (lv * 6 + 2) = nI (tk w rs c) := q0_.2.2.1
theorem Lv.x3 {w : Cd} {v : Hv} {rs k c lv dd : Nat} {s : St} {t : SM} (q0_ : Lv w v rs k c lv dd s t) : s 28 (lv * 6 + 3) = nI (ob w k c) := q0_.2.2.2.1
theorem Lv.x4 {w : Cd} {v : Hv} {rs k c lv dd : Nat} {s : St} {t : SM} (q0_ : Lv w v rs k c lv dd s t) : s 28 (lv * 6 + 4) = nI dd := q0_.2.2.2.2.1
theorem Lv.x5 {w : Cd} {v : Hv} {rs k c lv dd : Nat} {s : St} {t : SM} (q0_ : Lv w v rs k c lv dd s t) : s 28 (lv * 6 + 5) = nI (et v c) := q0_.2.2.2.2.2.1
theorem Lv.m26 {w : Cd} {v : Hv} {rs k c lv dd : Nat} {s : St} {t : SM} (q0_ : Lv w v rs k c lv dd s t) : t.1 26 lv = nI c - 1 := q0_.2.2.2.2.2.2.1
theorem Lv.m27 {w : Cd} {v : Hv} {rs k c lv dd : Nat} {s : St} {t : SM} (q0_ : Lv w v rs k c lv dd s t) : t.1 27 lv = nI (bs w v c) := q0_.2.2.2.2.2.2.2.1
theorem Lv.m28 {w : Cd} {v : Hv} {rs k c lv dd : Nat} {s : St} {t : SM} (q0_ : Lv w v rs k c lv dd s t) : t.1 28 lv = nI dd := q0_.2.2.2.2.2.2.2.2.1
theorem Lv.d1 {w : Cd} {v : Hv} {rs k c lv dd : Nat} {s : St} {t : SM} (q0_ : Lv w v rs k c lv dd s t) : dd ≤ 1 := q0_.2.2.2.2.2.2.2.2.2
/-- before the row k is judged -/
def VI (w : Cd) (v : Hv) (f rs k : Nat) (s : St) (t : SM) : Prop :=
  (s 3 0 = nI (w.dp k + 1)) ∧
  (s 3 1 = nI (v.hi k)) ∧
  (s 3 2 = nI f) ∧
  (s 3 3 = 0) ∧
  (t.1 0 5 = 0) ∧
  (t.1 0 16 = nI (w.dp k)) ∧
  (t.1 0 17 = nI (v.hi k)) ∧
  (v.hi k ≤ 16) ∧
  (v.lo k ≤ 1) ∧
  (∀ j, j ≤ w.dp k → ∃ dd, Lv w v rs k (ups w.ins j (w.ins k)) (w.dp k - j) dd s t ∧ (v.lo k = 0 → dd = 0) ∧ (v.lo k = 1 → j = v.ns k → dd = 1) ∧ (v.lo k = 1 → v.ns k < j → dd = 0)) ∧
  (v.lo k = 0 → ∀ j, j ≤ w.dp k → et v (ups w.ins j (w.ins k)) = 1) ∧
  (v.lo k = 1 → v.ns k ≤ w.dp k ∧ ∀ j, j ≤ w.dp k → (et v (ups w.ins j (w.ins k)) = 1 ↔ v.ns k ≤ j)) ∧
  (∀ j, j < w.dp k → bs w v (ups w.ins (j + 1) (w.ins k)) ≤ bs w v (ups w.ins j (w.ins k))) ∧
  (bs w v (w.ins k) ≤ v.hi k)
theorem VI.x0 {w : Cd} {v : Hv} {f rs k : Nat} {s : St} {t : SM} (q0_ : VI w v f rs k s t) : s 3 0 = nI (w.dp k + 1) := q0_.1
theorem VI.x1 {w : Cd} {v : Hv} {f rs k : Nat} {s : St} {t : SM} (q0_ : VI w v f rs k s t) : s 3 1 = nI (v.hi k) := q0_.2.1
theorem VI.x2 {w : Cd} {v : Hv} {f rs k : Nat} {s : St} {t : SM} (q0_ : VI w v f rs k s t) : s 3 2 = nI f := q0_.2.2.1
theorem VI.x3 {w : Cd} {v : Hv} {f rs k : Nat} {s : St} {t : SM} (q0_ : VI w v f rs k s t) : s 3 3 = 0 := q0_.2.2.2.1
theorem VI.m5 {w : Cd} {v : Hv} {f rs k : Nat} {s : St} {t : SM} (q0_ : VI w v f rs k s t) : t.1 0 5 = 0 := q0_.2.2.2.2.1
theorem VI.m16 {w : Cd} {v : Hv} {f rs k : Nat} {s : St} {t : SM} (q0_ : VI w v f rs k s t) : t.1 0 16 = nI (w.dp k) := q0_.2.2.2.2.2.1
theorem VI.m17 {w : Cd} {v : Hv} {f rs k : Nat} {s : St} {t : SM} (q0_ : VI w v f rs k s t) : t.1 0 17 = nI (v.hi k) := q0_.2.2.2.2.2.2.1
theorem VI.h16 {w : Cd} {v : Hv} {f rs k : Nat} {s : St} {t : SM} (q0_ : VI w v f rs k s t) : v.hi k ≤ 16 := q0_.2.2.2.2.2.2.2.1
theorem VI.l1 {w : Cd} {v : Hv} {f rs k : Nat} {s : St} {t : SM} (q0_ : VI w v f rs k s t) : v.lo k ≤ 1 := q0_.2.2.2.2.2.2.2.2.1
theorem VI.lv {w : Cd} {v : Hv} {f rs k : Nat} {s : St} {t : SM} (q0_ : VI w v f rs k s t) : ∀ j, j ≤ w.dp k → ∃ dd, Lv w v rs k (ups w.ins j (w.ins k)) (w.dp k - j) dd s t ∧ (v.lo k = 0 → dd = 0) ∧ (v.lo k = 1 → j = v.ns k → dd = 1) ∧ (v.lo k = 1 → v.ns k < j → dd = 0) := q0_.2.2.2.2.2.2.2.2.2.1
theorem VI.e0 {w : Cd} {v : Hv} {f rs k : Nat} {s : St} {t : SM} (q0_ : VI w v f rs k s t) : v.lo k = 0 → ∀ j, j ≤ w.dp k → et v (ups w.ins j (w.ins k)) = 1 := q0_.2.2.2.2.2.2.2.2.2.2.1
theorem VI.e1 {w : Cd} {v : Hv} {f rs k : Nat} {s : St} {t : SM} (q0_ : VI w v f rs k s t) : v.lo k = 1 → v.ns k ≤ w.dp k ∧ ∀ j, j ≤ w.dp k → (et v (ups w.ins j (w.ins k)) = 1 ↔ v.ns k ≤ j) := q0_.2.2.2.2.2.2.2.2.2.2.2.1
theorem VI.mo {w : Cd} {v : Hv} {f rs k : Nat} {s : St} {t : SM} (q0_ : VI w v f rs k s t) : ∀ j, j < w.dp k → bs w v (ups w.ins (j + 1) (w.ins k)) ≤ bs w v (ups w.ins j (w.ins k)) := q0_.2.2.2.2.2.2.2.2.2.2.2.2.1
theorem VI.bh {w : Cd} {v : Hv} {f rs k : Nat} {s : St} {t : SM} (q0_ : VI w v f rs k s t) : bs w v (w.ins k) ≤ v.hi k := q0_.2.2.2.2.2.2.2.2.2.2.2.2.2
theorem VI.tp {w : Cd} {v : Hv} {f rs k : Nat} {s : St} {t : SM} (I : VI w v f rs k s t) (hd : w.dp k ≤ 10) : ∃ dd, Tp (w.dp k) (bs w v (w.ins k)) dd (v.hi k) s t ∧ Lv w v rs k (w.ins k) (w.dp k) dd s t ∧ (v.lo k = 0 → dd = 0) ∧ (v.lo k = 1 → v.ns k = 0 → dd = 1) := by
  obtain ⟨dd, L, h1, h2, h3⟩ := I.lv 0 (Nat.zero_le _)
  rw [ups, Nat.sub_zero] at L
  have := I.h16
  exact ⟨dd, ⟨I.x0, I.x1, I.x3, L.x0, L.x4, I.m5, I.m16, I.m17, L.m27, L.m28, hd, I.bh, by omega, L.d1⟩, L, h1, fun q q2 => h2 q q2.symm⟩
