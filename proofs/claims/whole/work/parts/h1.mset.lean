-- running: the other side's steps
/-- what moves in one call, memory and globals apart -/
def WJ (la c : Nat) (t t' : SM) : Prop :=
  (WM la c t t') ∧
  (t'.1 29 = t.1 29) ∧
  (t'.1 30 = t.1 30) ∧
  (t'.1 0 18 = t.1 0 18)
theorem WJ.w {la c : Nat} {t t' : SM} (q0_ : WJ la c t t') : WM la c t t' := q0_.1
theorem WJ.a {la c : Nat} {t t' : SM} (q0_ : WJ la c t t') : t'.1 29 = t.1 29 := q0_.2.1
theorem WJ.b {la c : Nat} {t t' : SM} (q0_ : WJ la c t t') : t'.1 30 = t.1 30 := q0_.2.2.1
theorem WJ.p {la c : Nat} {t t' : SM} (q0_ : WJ la c t t') : t'.1 0 18 = t.1 0 18 := q0_.2.2.2
theorem WJ.refl (la c : Nat) (t : SM) : WJ la c t t := ⟨WM.refl _ _ _, rfl, rfl, rfl⟩
theorem WJ.p0 {la c : Nat} {t t' : SM} {v : Int32} (h : WJ la c t t') : WJ la c t (stI t' 0 23 v) := ⟨h.w.p0 (by decide), by rw [stI1, stp_ne _ _ _ (by decide)]; exact h.a, by rw [stI1, stp_ne _ _ _ (by decide)]; exact h.b, by rw [stI1, stp_nj _ _ _ (by decide)]; exact h.p⟩
theorem WJ.p33 {la c : Nat} {t t' : SM} {v : Int32} (h : WJ la c t t') : WJ la c t (stI t' 33 c v) := ⟨h.w.p33, by rw [stI1, stp_ne _ _ _ (by decide)]; exact h.a, by rw [stI1, stp_ne _ _ _ (by decide)]; exact h.b, by rw [stI1, stp_ne _ _ _ (by decide)]; exact h.p⟩
theorem WJ.p35 {la c j : Nat} {t t' : SM} {v : Int32} (hj : la ≤ j) (h : WJ la c t t') : WJ la c t (stI t' 35 j v) := ⟨h.w.p35 hj, by rw [stI1, stp_ne _ _ _ (by decide)]; exact h.a, by rw [stI1, stp_ne _ _ _ (by decide)]; exact h.b, by rw [stI1, stp_ne _ _ _ (by decide)]; exact h.p⟩
theorem WJ.trans {la c : Nat} {t t1 t2 : SM} (h : WJ la c t t1) (h2 : WJ la c t1 t2) : WJ la c t t2 :=
  ⟨⟨h2.w.l2.trans h.w.l2, fun a a1 a2 a3 a4 a5 => (h2.w.o a a1 a2 a3 a4 a5).trans (h.w.o a a1 a2 a3 a4 a5), fun j j1 j2 => (h2.w.z j j1 j2).trans (h.w.z j j1 j2), fun i hi => (h2.w.p i hi).trans (h.w.p i hi), fun i hi => (h2.w.k i hi).trans (h.w.k i hi)⟩, h2.a.trans h.a, h2.b.trans h.b, h2.p.trans h.p⟩
section MSET
variable {w : Cd} {v : Hv} {m : Md} {C nP : Nat} {s : St} {t : SM} {c k f : Nat}
theorem ms_0 {n : Nat} {x : Int32} (hr : t.1 0 20 = 0) : f_M_settle_2 (n + 1) x t = some t := by rw [f_M_settle_2, if_pos hr, f_M_settle_145]
theorem ms_i {n : Nat} (S : Sta w v m C nP s t) (hr : t.1 0 20 = 1) (hc : t.1 0 22 = nI c) (h9 : c < 9) (hk : t.1 33 c = nI k) (hkC : k < C) : f_M_settle_2 (n + 1) 1 t = f_M_settle_49 (f_M_settle_2 n) 1 (nI k) (if w.op k = 11 ∨ w.op k = 5 then 1 else 0) t := by
  have hC := S.hC
  have ho := kno_lt (S.kn hkC).1
  rw [f_M_settle_2, if_neg (by rw [hr]; decide), if_neg (by decide), hc, gi_n h9 (by decide), nI_clamp (by omega), hk]
  simp only [lt1, f_M_settle_44]
  rw [gi_n (show k < 250 by omega) (by decide), nI_clamp (show k < 2 ^ 31 by omega), (S.rm k hkC).c0, gi_n (show k < 250 by omega) (by decide)]
  by_cases h1 : w.op k = 11
  · rw [if_pos (show nI (w.op k) = 11 by rw [h1]; rfl), if_pos (Or.inl h1)]
  · rw [if_neg (show ¬ nI (w.op k) = 11 from fun q => h1 ((nI_eq (b := 11) (by omega) (by decide)).mp q))]
    by_cases h2 : w.op k = 5
    · rw [if_pos (show nI (w.op k) = 5 by rw [h2]; rfl), if_pos (Or.inr h2)]
    · rw [if_neg (show ¬ nI (w.op k) = 5 from fun q => h2 ((nI_eq (b := 5) (by omega) (by decide)).mp q)), if_neg (by omega)]
theorem ms_stop {n : Nat} (S : Sta w v m C nP s t) (hr : t.1 0 20 = 1) (hc : t.1 0 22 = nI c) (h9 : c < 9) (hk : t.1 33 c = nI k) (hkC : k < C) (h5 : w.op k ≠ 5) (h11 : w.op k ≠ 11) : f_M_settle_2 (n + 2) 1 t = some t := by
  have hC := S.hC
  have ho := kno_lt (S.kn hkC).1
  rw [ms_i S hr hc h9 hk hkC, if_neg (by omega), f_M_settle_49]
  simp only [lt1, f_M_settle_119, f_M_settle_142]
  rw [gi_n (show k < 250 by omega) (by decide), nI_clamp (show k < 2 ^ 31 by omega), (S.rm k hkC).c0]
  rw [if_neg (show ¬ nI (w.op k) = 5 from fun q => h5 ((nI_eq (b := 5) (by omega) (by decide)).mp q)), if_neg (show ¬ nI (w.op k) = 11 from fun q => h11 ((nI_eq (b := 11) (by omega) (by decide)).mp q)), gi_n (show k < 250 by omega) (by decide), gi_n (show k < 250 by omega) (by decide), if_neg (show ¬ nI (w.op k) = 11 from fun q => h11 ((nI_eq (b := 11) (by omega) (by decide)).mp q)), f_M_settle_2, if_neg (by rw [hr]; decide), if_pos rfl, f_M_settle_145]
theorem ms_else {n : Nat} (S : Sta w v m C nP s t) (hr : t.1 0 20 = 1) (hc : t.1 0 22 = nI c) (h9 : c < 9) (hk : t.1 33 c = nI k) (hkC : k < C) (h5 : w.op k = 5) {e : Nat} (he : w.en (w.ins k - 1) = e + 1) : f_M_settle_2 (n + 1) 1 t = f_M_settle_2 n 1 (stI t 33 c (nI e)) := by
  have hC := S.hC
  have ho := kno_lt (S.kn hkC).1
  obtain ⟨q1, q2, q3⟩ := S.W.el1 k hkC h5
  have q4 := S.W.i1 k (by omega)
  rw [ms_i S hr hc h9 hk hkC, if_pos (Or.inr h5), f_M_settle_49]
  simp only [lt1, f_M_settle_142]
  have R := S.rm (w.ins k - 1) (by omega)
  rw [gi_n (show k < 250 by omega) (by decide), nI_clamp (show k < 2 ^ 31 by omega), (S.rm k hkC).c0, if_pos (show nI (w.op k) = 5 by rw [h5]; rfl), gi_n (show k < 250 by omega) (by decide), (S.rm k hkC).c3, nsub1 (by omega), gi_n (show w.ins k - 1 < 250 by omega) (by decide), nI_clamp (by omega), R.c4, he, nI_pred, hc, gi_n h9 (by decide), nI_clamp (by omega)]
theorem ms_end {n : Nat} (S : Sta w v m C nP s t) (hr : t.1 0 20 = 1) (hc : t.1 0 22 = nI c) (h9 : c < 9) (hk : t.1 33 c = nI k) (hkC : k < C) (h11 : w.op k = 11) (h0 : w.ins k ≠ 0) (hf : t.1 32 c = nI f) (hfn : w.fn k = f) : f_M_settle_2 (n + 1) 1 t = f_M_settle_2 n 1 (stI t 33 c (nI (k + 1))) := by
  have hC := S.hC
  have h8 := S.E.nF8
  have hfl := S.lt k hkC
  obtain ⟨bg, ls, Fs, _, _⟩ := S.fs f (by omega)
  have hls := Fs.lC
  have ne : ¬ nI k = nI ls := fun q => h0 (by rw [(nI_eq (by omega) (by omega)).mp q]; exact Fs.il)
  rw [ms_i S hr hc h9 hk hkC, if_pos (Or.inl h11), f_M_settle_49]
  simp only [lt1, f_M_settle_119, f_M_settle_142]
  rw [gi_n (show k < 250 by omega) (by decide), nI_clamp (show k < 2 ^ 31 by omega), (S.rm k hkC).c0, if_neg (show ¬ nI (w.op k) = 5 by rw [h11]; decide), gi_n (show k < 250 by omega) (by decide), if_pos (show nI (w.op k) = 11 by rw [h11]; rfl), hc, gi_n h9 (by decide), nI_clamp (show c < 2 ^ 31 by omega), hf, gi_n (show f < 8 by omega) (by decide), nI_clamp (show f < 2 ^ 31 by omega), Fs.m23, if_neg ne, gi_n (show k < 250 by omega) (by decide), if_pos (show nI (w.op k) = 11 by rw [h11]; rfl), gi_n h9 (by decide), nI_1]
theorem ms_leave {n : Nat} (S : Sta w v m C nP s t) (hr : t.1 0 20 = 1) (hc : t.1 0 22 = nI c) (h9 : c < 9) (hk : t.1 33 c = nI k) (hkC : k < C) (h11 : w.op k = 11) (h0 : w.ins k = 0) (hf : t.1 32 c = nI f) (hfn : w.fn k = f) : f_M_settle_2 (n + 1) 1 t = bd1 (f_M_leave t) fun t' => f_M_settle_2 n 1 t' := by
  have hC := S.hC
  have h8 := S.E.nF8
  have hfl := S.lt k hkC
  obtain ⟨bg, Fs⟩ := S.clo hkC h11 h0
  rw [ms_i S hr hc h9 hk hkC, if_pos (Or.inl h11), f_M_settle_49]
  simp only [lt1, f_M_settle_142]
  rw [gi_n (show k < 250 by omega) (by decide), nI_clamp (show k < 2 ^ 31 by omega), (S.rm k hkC).c0, if_neg (show ¬ nI (w.op k) = 5 by rw [h11]; decide), gi_n (show k < 250 by omega) (by decide), if_pos (show nI (w.op k) = 11 by rw [h11]; rfl), hc, gi_n h9 (by decide), nI_clamp (show c < 2 ^ 31 by omega), hf, gi_n (show f < 8 by omega) (by decide), nI_clamp (show f < 2 ^ 31 by omega), ← hfn, Fs.m23, if_pos rfl]
theorem mres {f : Nat} (E : Env m s t) (hf : f < m.nF) : f_M_resultsOf t (nI f) = some (nI (m.res f)) := by
  have h8 := E.nF8
  obtain ⟨q, h1, h2, h3, h4⟩ := E.tM f hf
  rw [f_M_resultsOf, gi_n (show f < 8 by omega) (by decide), nI_clamp (by omega), h2]
  simp only [lt1]
  rw [lN_i, gi_n h1 (by decide), nI_clamp (by omega), h4]
/-- a call ends -/
theorem leave_1 (E : Env m s t) (hc : t.1 0 22 = nI 1) (hf : t.1 32 1 = nI f) (hfn : f < m.nF) {la q : Nat} (hl : t.1 34 1 = nI la) (hsp : m.res f ≠ 0 → t.1 0 23 = nI (q + 1)) (hq : q < 399) {x : Int32} (hx : x = if m.res f = 0 then 0 else t.1 35 q) :
    f_M_leave t = some (stI (stI (stI (stI t 0 23 (nI la)) 0 22 (nI 0)) 0 20 0) 0 21 x) := by
  have h1 := (E.p4 f hfn).2.1
  have e35 : f_M_leave_35 (nI f) (nI (m.res f)) x t = some (stI (stI (stI (stI t 0 23 (nI la)) 0 22 (nI 0)) 0 20 0) 0 21 x) := by
    rw [f_M_leave_35, hc, gi_n (by decide) (by decide), nI_clamp (by decide), hl]
    simp only [lt1, f_M_leave_99]
    rw [show (stI t 0 23 (nI la)).1 0 22 = nI 1 by simp (disch := first | decide | omega) only [stI1, stI2, stp_eq, stp_row, stp_ne, stp_nj ]; exact hc, nsub1 (by decide), show (stI (stI t 0 23 (nI la)) 0 22 (nI (1 - 1))).1 0 22 = nI 0 by simp (disch := first | decide | omega) only [stI1, stI2, stp_eq, stp_row, stp_ne, stp_nj ], if_pos (show nI 0 ≤ 0 by decide)]
  rw [f_M_leave, hc, gi_n (by decide) (by decide), nI_clamp (by decide), hf]
  simp only [lt1]
  rw [mres E hfn, bd1_some]
  by_cases hr : m.res f = 0
  · rw [if_pos hr] at hx
    rw [if_pos (show nI (m.res f) ≤ 0 by rw [hr]; decide)]
    subst hx
    exact e35
  · rw [if_neg hr] at hx
    rw [if_neg (show ¬ nI (m.res f) ≤ 0 from nI_ge (a := 0) (by omega) (by omega)), hsp hr, nI_pred, gi_n (by omega) (by decide), nI_clamp (by omega), ← hx, e35]
theorem leave_2 (E : Env m s t) (hc : t.1 0 22 = nI (c + 1)) (h0 : 0 < c) (h9 : c + 1 < 9) (hf : t.1 32 (c + 1) = nI f) (hfn : f < m.nF) {la q : Nat} (hl : t.1 34 (c + 1) = nI la) (hla : la < 390) (hsp : m.res f ≠ 0 → t.1 0 23 = nI (q + 1)) (hq : q < 399) {x : Int32} (hx : x = if m.res f = 0 then 0 else t.1 35 q) :
    f_M_leave t = some (stI (stI (stI (stI t 0 23 (nI la)) 0 22 (nI c)) 35 la x) 0 23 (nI (la + m.res f))) := by
  have h1 := (E.p4 f hfn).2.1
  have e35 : f_M_leave_35 (nI f) (nI (m.res f)) x t = some (stI (stI (stI (stI t 0 23 (nI la)) 0 22 (nI c)) 35 la x) 0 23 (nI (la + m.res f))) := by
    rw [f_M_leave_35, hc, gi_n h9 (by decide), nI_clamp (by omega), hl]
    simp only [lt1, f_M_leave_99]
    rw [show (stI t 0 23 (nI la)).1 0 22 = nI (c + 1) by simp (disch := first | decide | omega) only [stI1, stI2, stp_eq, stp_row, stp_ne, stp_nj ]; exact hc, nI_pred, show (stI (stI t 0 23 (nI la)) 0 22 (nI c)).1 0 22 = nI c by simp (disch := first | decide | omega) only [stI1, stI2, stp_eq, stp_row, stp_ne, stp_nj ], if_neg (show ¬ nI c ≤ 0 from nI_ge (a := 0) (by omega) (by omega)), show (stI (stI t 0 23 (nI la)) 0 22 (nI c)).1 0 23 = nI la by simp (disch := first | decide | omega) only [stI1, stI2, stp_eq, stp_row, stp_ne, stp_nj ], gi_n (by omega) (by decide), nI_clamp (by omega), show (stI (stI (stI t 0 23 (nI la)) 0 22 (nI c)) 35 la x).1 0 23 = nI la by simp (disch := first | decide | omega) only [stI1, stI2, stp_eq, stp_row, stp_ne, stp_nj ], nI_add]
  rw [f_M_leave, hc, gi_n h9 (by decide), nI_clamp (by omega), hf]
  simp only [lt1]
  rw [mres E hfn, bd1_some]
  by_cases hr : m.res f = 0
  · rw [if_pos hr] at hx
    rw [if_pos (show nI (m.res f) ≤ 0 by rw [hr]; decide)]
    subst hx
    exact e35
  · rw [if_neg hr] at hx
    rw [if_neg (show ¬ nI (m.res f) ≤ 0 from nI_ge (a := 0) (by omega) (by omega)), hsp hr, nI_pred, gi_n (by omega) (by decide), nI_clamp (by omega), ← hx, e35]
/-- the block that a label names -/
theorem jmp_go (S : Sta w v m C nP s t) (hkC : k < C) {a : Nat} (ha : a ≤ w.dp k) : ∀ d j N, j + d = a → d < N → f_M_jump_11 N (nI k) (lN a) (nI (ups w.ins j (w.ins k)) - 1) (lN j) t = f_M_jump_42 (nI k) (lN a) (nI (ups w.ins a (w.ins k)) - 1) (lN a) t := by
  have h10 := S.W.d10 k (by omega)
  have hC := S.hC
  intro d
  induction d with
  | zero =>
    intro j N hj hN
    obtain ⟨N, rfl⟩ : ∃ q, N = q + 1 := ⟨N - 1, by omega⟩
    rw [f_M_jump_11]
    simp only [lt1]
    rw [show j = a by omega, if_pos ((lg_cmp_ge _ _).mpr (by rw [lN_le (by omega) (by omega)]; exact Nat.le_refl _))]
  | succ d ih =>
    intro j N hj hN
    obtain ⟨N, rfl⟩ : ∃ q, N = q + 1 := ⟨N - 1, by omega⟩
    obtain ⟨B, h1, h2, h3, h4, h5, h6⟩ := chn S.W (show k ≤ C by omega) j (by omega)
    rw [f_M_jump_11]
    simp only [lt1]
    rw [if_neg (fun q => absurd ((lN_le (by omega) (by omega)).mp ((lg_cmp_ge _ _).mp q)) (by omega)), h1, nI_pred, if_neg (show ¬ nI B = -1 from fun q => absurd (nI_pos' (n := B) (by omega)) (by rw [q]; decide +kernel)), gi_n (by omega) (by decide), nI_clamp (by omega), (S.rm B (by omega)).c3, lN_1, ← h6]
    exact ih (j + 1) N (by omega) (by omega)
theorem FU_9 : 900000 ≤ FU := by unfold FU; omega
theorem jump_fn (S : Sta w v m C nP s t) (hkC : k < C) (hc : t.1 0 22 = nI c) (h9 : c < 9) (hf : t.1 32 c = nI (w.fn k)) {bg ls : Nat} (Fs : FnS w C (w.fn k) s t bg ls) : f_M_jump (nI k) (lN (w.dp k)) t = some (stI t 33 c (nI ls)) := by
  have hC := S.hC
  have h8 := S.E.nF8
  have hfl := S.lt k hkC
  have h10 := S.W.d10 k (by omega)
  have hN := FU_9
  rw [f_M_jump]
  generalize FU = N at hN ⊢
  rw [gi_n (show k < 250 by omega) (by decide), nI_clamp (show k < 2 ^ 31 by omega), (S.rm k hkC).c3, lt1, show (0 : Int64) = lN 0 from rfl, show w.ins k = ups w.ins 0 (w.ins k) from rfl, jmp_go S hkC (Nat.le_refl _) (w.dp k) 0 N (by omega) (by omega), chn0 S.W (by omega), f_M_jump_42]
  simp only [lt1]
  rw [hc, gi_n h9 (by decide), nI_clamp (by omega), hf, if_pos neg1.symm, gi_n (show w.fn k < 8 by omega) (by decide), nI_clamp (by omega), Fs.m23, gi_n h9 (by decide)]
/-- what a block's start kept -/
theorem Sta.bb (S : Sta w v m C nP s t) {B : Nat} (hB : B < C) (h : v.lo B = 0) (ho : 2 ≤ w.op B ∧ w.op B ≤ 4) : v.bb B + (if w.op B = 4 then 1 else 0) = v.hi B := by
  have T := (S.H.sr B hB).wt h
  by_cases q : w.op B = 4
  · rw [if_pos q]; have := T.t4 q; omega
  · rw [if_neg q]; have := T.t2 (by omega); omega
theorem jump_b (S : Sta w v m C nP s t) (hkC : k < C) (hlo : v.lo k = 0) (hc : t.1 0 22 = nI c) (h9 : c < 9) (hf : t.1 32 c = nI (w.fn k)) {la q a B : Nat} (hl : t.1 34 c = nI la) (hla : la < 300) (ha : a < w.dp k) (hB : ups w.ins a (w.ins k) = B + 1) (hsp : tk w 0 (B + 1) ≠ 0 → t.1 0 23 = nI (q + 1)) (hq : q < 390) :
    ∃ t', f_M_jump (nI k) (lN a) t = some t' ∧ WJ la c t t' ∧ t'.1 33 c = nI (if w.op B = 3 then B + 1 else w.en B - 1) ∧ t'.1 0 23 = nI (la + m.loc (w.fn k) + v.bb B + tk w 0 (B + 1)) ∧ t'.1 35 = if tk w 0 (B + 1) = 0 then t.1 35 else upd (t.1 35) (la + m.loc (w.fn k) + v.bb B) (t.1 35 q) := by
  have hC := S.hC
  have h8 := S.E.nF8
  have hfl := S.lt k hkC
  have h10 := S.W.d10 k (by omega)
  obtain ⟨B', g1, g2, g3, g4, g5, g6⟩ := chn S.W (show k ≤ C by omega) a ha
  rw [hB] at g1
  have : B' = B := by omega
  subst this
  have hloB := (S.alv hkC hlo a B' hB).2
  have hbb := S.bb (show B' < C by omega) hloB g3
  have hp4 := S.E.p4 _ hfl
  have h16 := S.h16 (show B' < C by omega)
  have oB := (S.kn (show B' < C by omega)).2.blk g3
  have hoB := kno_lt (S.kn (show B' < C by omega)).1
  have RB := S.rm B' (by omega)
  obtain ⟨e, e1, e2, e3, e4, e5⟩ := en_e S.W S.iC (show B' < C by omega) g3
  have hN := FU_9
  rw [f_M_jump]
  generalize FU = N at hN ⊢
  rw [gi_n (show k < 250 by omega) (by decide), nI_clamp (show k < 2 ^ 31 by omega), (S.rm k hkC).c3, lt1, show (0 : Int64) = lN 0 from rfl, show w.ins k = ups w.ins 0 (w.ins k) from rfl, jmp_go S hkC (show a ≤ w.dp k by omega) a 0 N (by omega) (by omega), hB, nI_pred, f_M_jump_42]
  simp only [lt1]
  have m99 : ∀ n, n ≤ 1 → (n = tk w 0 (B' + 1)) → f_M_jump_99 (nI k) (lN a) (nI B') (nI (w.fn k)) (nI n) t = f_M_jump_141 (nI k) (lN a) (nI B') (nI (w.fn k)) (nI n) (nI (la + m.loc (w.fn k) + v.hi B')) (nI (if w.op B' = 4 then 1 else 0)) t := by
    intro n _ _
    rw [f_M_jump_99, hc, gi_n h9 (by decide), nI_clamp (by omega), hl, S.E.lcM hfl]
    simp only [lt1, bd1_some]
    rw [gi_n (show B' < 250 by omega) (by decide), nI_clamp (by omega), S.H.m20 B' (by omega), nI_add, nI_add, gi_n (show B' < 250 by omega) (by decide), RB.c0]
    by_cases q4 : w.op B' = 4
    · rw [if_pos (show nI (w.op B') = 4 by rw [q4]; rfl), if_pos q4]; rfl
    · rw [if_neg (show ¬ nI (w.op B') = 4 from fun z => q4 ((nI_eq (b := 4) (by omega) (by decide)).mp z)), if_neg q4]; rfl
  have m198 : ∀ x5 x6 x7 x8 t', t'.1 14 B' = t.1 14 B' → t'.1 18 B' = t.1 18 B' → t'.1 0 22 = nI c → f_M_jump_198 (nI k) (lN a) (nI B') x5 x6 x7 x8 t' = some (stI t' 33 c (nI (if w.op B' = 3 then B' + 1 else w.en B' - 1))) := by
    intro x5 x6 x7 x8 t' z1 z2 z3
    rw [f_M_jump_198, gi_n (show B' < 250 by omega) (by decide), nI_clamp (by omega), z1, RB.c0, z2, RB.c4, e1, nI_pred, z3]
    simp only [lt1, f_M_jump_231]
    rw [gi_n (show B' < 250 by omega) (by decide), gi_n h9 (by decide), gi_n h9 (by decide), nI_clamp (by omega), nI_1]
    by_cases q3 : w.op B' = 3
    · rw [if_pos (show nI (w.op B') = 3 by rw [q3]; rfl), if_pos q3]
    · rw [if_neg (show ¬ nI (w.op B') = 3 from fun z => q3 ((nI_eq (b := 3) (by omega) (by decide)).mp z)), if_neg q3]; rfl
  have hto : nI (la + m.loc (w.fn k) + v.hi B') - nI (if w.op B' = 4 then 1 else 0) = nI (la + m.loc (w.fn k) + v.bb B') := by rw [pk_sub (by omega)]; exact congrArg nI (by omega)
  have htk : tk w 0 (B' + 1) = if w.op B' = 3 then 0 else w.a B' := by rw [tk, if_neg (by omega), Nat.add_sub_cancel]
  have m141 : ∀ n, n ≤ 1 → n = tk w 0 (B' + 1) → f_M_jump_141 (nI k) (lN a) (nI B') (nI (w.fn k)) (nI n) (nI (la + m.loc (w.fn k) + v.hi B')) (nI (if w.op B' = 4 then 1 else 0)) t = some (if n = 0 then stI (stI t 0 23 (nI (la + m.loc (w.fn k) + v.bb B'))) 33 c (nI (if w.op B' = 3 then B' + 1 else w.en B' - 1)) else stI (stI (stI (stI t 0 23 (nI (la + m.loc (w.fn k) + v.bb B'))) 35 (la + m.loc (w.fn k) + v.bb B') (t.1 35 q)) 0 23 (nI (la + m.loc (w.fn k) + v.bb B' + 1))) 33 c (nI (if w.op B' = 3 then B' + 1 else w.en B' - 1))) := by
    intro n hn hn2
    rw [f_M_jump_141]
    simp only [lt1, f_M_jump_164]
    rw [hto]
    by_cases n0 : n = 0
    · rw [n0, if_pos (show nI 0 ≤ 0 by decide), if_pos (show nI 0 ≤ 0 by decide), if_pos rfl, m198 _ _ _ _ _ (by simp (disch := first | decide | omega) only [stI1, stI2, stp_eq, stp_row, stp_ne, stp_nj ]) (by simp (disch := first | decide | omega) only [stI1, stI2, stp_eq, stp_row, stp_ne, stp_nj ]) (by simp (disch := first | decide | omega) only [stI1, stI2, stp_eq, stp_row, stp_ne, stp_nj ]; exact hc)]
    · rw [if_neg n0, if_neg (show ¬ nI n ≤ 0 from nI_ge (a := 0) (by omega) (by omega)), hsp (by omega), nI_pred, gi_n (show q < 400 by omega) (by decide), nI_clamp (show q < 2 ^ 31 by omega), if_neg (show ¬ nI n ≤ 0 from nI_ge (a := 0) (by omega) (by omega)), show (stI t 0 23 (nI (la + m.loc (w.fn k) + v.bb B'))).1 0 23 = nI (la + m.loc (w.fn k) + v.bb B') by simp (disch := first | decide | omega) only [stI1, stI2, stp_eq, stp_row, stp_ne, stp_nj ], gi_n (by omega) (by decide), nI_clamp (by omega), show (stI (stI t 0 23 (nI (la + m.loc (w.fn k) + v.bb B'))) 35 (la + m.loc (w.fn k) + v.bb B') (t.1 35 q)).1 0 23 = nI (la + m.loc (w.fn k) + v.bb B') by simp (disch := first | decide | omega) only [stI1, stI2, stp_eq, stp_row, stp_ne, stp_nj ], nI_1, m198 _ _ _ _ _ (by simp (disch := first | decide | omega) only [stI1, stI2, stp_eq, stp_row, stp_ne, stp_nj ]) (by simp (disch := first | decide | omega) only [stI1, stI2, stp_eq, stp_row, stp_ne, stp_nj ]) (by simp (disch := first | decide | omega) only [stI1, stI2, stp_eq, stp_row, stp_ne, stp_nj ]; exact hc)]
  have fin : ∀ n, n ≤ 1 → n = tk w 0 (B' + 1) → f_M_jump_99 (nI k) (lN a) (nI B') (nI (w.fn k)) (nI n) t = some (if n = 0 then stI (stI t 0 23 (nI (la + m.loc (w.fn k) + v.bb B'))) 33 c (nI (if w.op B' = 3 then B' + 1 else w.en B' - 1)) else stI (stI (stI (stI t 0 23 (nI (la + m.loc (w.fn k) + v.bb B'))) 35 (la + m.loc (w.fn k) + v.bb B') (t.1 35 q)) 0 23 (nI (la + m.loc (w.fn k) + v.bb B' + 1))) 33 c (nI (if w.op B' = 3 then B' + 1 else w.en B' - 1))) := fun n h1 h2 => (m99 n h1 h2).trans (m141 n h1 h2)
  rw [hc, gi_n h9 (by decide), nI_clamp (by omega), hf, if_neg (show ¬ nI B' = -1 from fun q => absurd (nI_pos' (n := B') (by omega)) (by rw [q]; decide +kernel)), gi_n (show B' < 250 by omega) (by decide), nI_clamp (by omega), RB.c0, gi_n (show B' < 250 by omega) (by decide), RB.c1, mF, if_neg (show ¬ w.op B' = 65 by omega), lN_i]
  have key : ∃ n, n ≤ 1 ∧ n = tk w 0 (B' + 1) ∧ (if nI (w.op B') = 3 then f_M_jump_99 (nI k) (lN a) (nI B') (nI (w.fn k)) 0 t else f_M_jump_99 (nI k) (lN a) (nI B') (nI (w.fn k)) (nI (w.a B')) t) = f_M_jump_99 (nI k) (lN a) (nI B') (nI (w.fn k)) (nI n) t := by
    rw [htk]
    by_cases q3 : w.op B' = 3
    · refine ⟨0, by omega, by rw [if_pos q3], ?_⟩
      rw [if_pos (show nI (w.op B') = 3 by rw [q3]; rfl)]; rfl
    · refine ⟨w.a B', oB, by rw [if_neg q3], ?_⟩
      rw [if_neg (show ¬ nI (w.op B') = 3 from fun z => q3 ((nI_eq (b := 3) (by omega) (by decide)).mp z))]
  obtain ⟨n, n1, n2, n3⟩ := key
  rw [n3, fin n n1 n2, ← n2]
  by_cases n0 : n = 0
  · rw [if_pos n0]
    refine ⟨_, rfl, ((WJ.refl _ _ _).p0).p33, by simp (disch := first | decide | omega) only [stI1, stI2, stp_eq, stp_row, stp_ne, stp_nj ], ?_, ?_⟩
    · simp (disch := first | decide | omega) only [stI1, stI2, stp_eq, stp_row, stp_ne, stp_nj ]; rw [n0, Nat.add_zero]
    · rw [if_pos n0]; simp (disch := first | decide | omega) only [stI1, stI2, stp_eq, stp_row, stp_ne, stp_nj ]
  · rw [if_neg n0]
    refine ⟨_, rfl, ((((WJ.refl _ _ _).p0).p35 (by omega)).p0).p33, by simp (disch := first | decide | omega) only [stI1, stI2, stp_eq, stp_row, stp_ne, stp_nj ], ?_, ?_⟩
    · simp (disch := first | decide | omega) only [stI1, stI2, stp_eq, stp_row, stp_ne, stp_nj ]; rw [show n = 1 by omega]
    · rw [if_neg n0]; simp (disch := first | decide | omega) only [stI1, stI2, stp_eq, stp_row, stp_ne, stp_nj ]
end MSET
